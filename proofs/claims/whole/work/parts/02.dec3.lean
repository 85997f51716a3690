theorem dX12_cut_0 : decode cX12_cut 0 = .ok (.iload_n 1, 1) := by decide +kernel
theorem dX12_cut_1 : decode cX12_cut 1 = .ok (.ifCond .lt 11, 3) := by decide +kernel
theorem dX12_cut_4 : decode cX12_cut 4 = .ok (.iload_n 1, 1) := by decide +kernel
theorem dX12_cut_5 : decode cX12_cut 5 = .ok (.aload_n 0, 1) := by decide +kernel
theorem dX12_cut_6 : decode cX12_cut 6 = .ok (.getfield 345, 3) := by decide +kernel
theorem dX12_cut_9 : decode cX12_cut 9 = .ok (.if_icmp .le 5, 3) := by decide +kernel
theorem dX12_cut_12 : decode cX12_cut 12 = .ok (.iconst (-1), 1) := by decide +kernel
theorem dX12_cut_13 : decode cX12_cut 13 = .ok (.ireturn, 1) := by decide +kernel
theorem dX12_cut_14 : decode cX12_cut 14 = .ok (.aload_n 0, 1) := by decide +kernel
theorem dX12_cut_15 : decode cX12_cut 15 = .ok (.getfield 345, 3) := by decide +kernel
theorem dX12_cut_18 : decode cX12_cut 18 = .ok (.iload_n 1, 1) := by decide +kernel
theorem dX12_cut_19 : decode cX12_cut 19 = .ok (.isub, 1) := by decide +kernel
theorem dX12_cut_20 : decode cX12_cut 20 = .ok (.istore_n 2, 1) := by decide +kernel
theorem dX12_cut_21 : decode cX12_cut 21 = .ok (.aload_n 0, 1) := by decide +kernel
theorem dX12_cut_22 : decode cX12_cut 22 = .ok (.iload_n 1, 1) := by decide +kernel
theorem dX12_cut_23 : decode cX12_cut 23 = .ok (.putfield 345, 3) := by decide +kernel
theorem dX12_cut_26 : decode cX12_cut 26 = .ok (.iload_n 2, 1) := by decide +kernel
theorem dX12_cut_27 : decode cX12_cut 27 = .ok (.ireturn, 1) := by decide +kernel
theorem dX12_nearest_0 : decode cX12_nearest 0 = .ok (.ldc2_w 351, 3) := by decide +kernel
theorem dX12_nearest_3 : decode cX12_nearest 3 = .ok (.lload_n 0, 1) := by decide +kernel
theorem dX12_nearest_4 : decode cX12_nearest 4 = .ok (.lmul, 1) := by decide +kernel
theorem dX12_nearest_5 : decode cX12_nearest 5 = .ok (.lload_n 2, 1) := by decide +kernel
theorem dX12_nearest_6 : decode cX12_nearest 6 = .ok (.ladd, 1) := by decide +kernel
theorem dX12_nearest_7 : decode cX12_nearest 7 = .ok (.lstore 4, 2) := by decide +kernel
theorem dX12_nearest_9 : decode cX12_nearest 9 = .ok (.lload 4, 2) := by decide +kernel
theorem dX12_nearest_11 : decode cX12_nearest 11 = .ok (.ldc2_w 351, 3) := by decide +kernel
theorem dX12_nearest_14 : decode cX12_nearest 14 = .ok (.lload_n 2, 1) := by decide +kernel
theorem dX12_nearest_15 : decode cX12_nearest 15 = .ok (.lmul, 1) := by decide +kernel
theorem dX12_nearest_16 : decode cX12_nearest 16 = .ok (.ldiv, 1) := by decide +kernel
theorem dX12_nearest_17 : decode cX12_nearest 17 = .ok (.lstore 6, 2) := by decide +kernel
theorem dX12_nearest_19 : decode cX12_nearest 19 = .ok (.lload 4, 2) := by decide +kernel
theorem dX12_nearest_21 : decode cX12_nearest 21 = .ok (.ldc2_w 351, 3) := by decide +kernel
theorem dX12_nearest_24 : decode cX12_nearest 24 = .ok (.lload_n 2, 1) := by decide +kernel
theorem dX12_nearest_25 : decode cX12_nearest 25 = .ok (.lmul, 1) := by decide +kernel
theorem dX12_nearest_26 : decode cX12_nearest 26 = .ok (.lrem, 1) := by decide +kernel
theorem dX12_nearest_27 : decode cX12_nearest 27 = .ok (.lconst 0, 1) := by decide +kernel
theorem dX12_nearest_28 : decode cX12_nearest 28 = .ok (.lcmp, 1) := by decide +kernel
theorem dX12_nearest_29 : decode cX12_nearest 29 = .ok (.ifCond .ge 10, 3) := by decide +kernel
theorem dX12_nearest_32 : decode cX12_nearest 32 = .ok (.lload 6, 2) := by decide +kernel
theorem dX12_nearest_34 : decode cX12_nearest 34 = .ok (.lconst 1, 1) := by decide +kernel
theorem dX12_nearest_35 : decode cX12_nearest 35 = .ok (.lsub, 1) := by decide +kernel
theorem dX12_nearest_36 : decode cX12_nearest 36 = .ok (.goto 5, 3) := by decide +kernel
theorem dX12_nearest_39 : decode cX12_nearest 39 = .ok (.lload 6, 2) := by decide +kernel
theorem dX12_nearest_41 : decode cX12_nearest 41 = .ok (.lreturn, 1) := by decide +kernel
theorem dX12_word_0 : decode cX12_word 0 = .ok (.lconst 0, 1) := by decide +kernel
theorem dX12_word_1 : decode cX12_word 1 = .ok (.lstore_n 1, 1) := by decide +kernel
theorem dX12_word_2 : decode cX12_word 2 = .ok (.iconst 0, 1) := by decide +kernel
theorem dX12_word_3 : decode cX12_word 3 = .ok (.istore_n 3, 1) := by decide +kernel
theorem dX12_word_4 : decode cX12_word 4 = .ok (.iload_n 3, 1) := by decide +kernel
theorem dX12_word_5 : decode cX12_word 5 = .ok (.aload_n 0, 1) := by decide +kernel
theorem dX12_word_6 : decode cX12_word 6 = .ok (.invokevirtual 353, 3) := by decide +kernel
theorem dX12_word_9 : decode cX12_word 9 = .ok (.if_icmp .ge 23, 3) := by decide +kernel
theorem dX12_word_12 : decode cX12_word 12 = .ok (.lload_n 1, 1) := by decide +kernel
theorem dX12_word_13 : decode cX12_word 13 = .ok (.iconst 5, 1) := by decide +kernel
theorem dX12_word_14 : decode cX12_word 14 = .ok (.lshl, 1) := by decide +kernel
theorem dX12_word_15 : decode cX12_word 15 = .ok (.aload_n 0, 1) := by decide +kernel
theorem dX12_word_16 : decode cX12_word 16 = .ok (.iload_n 3, 1) := by decide +kernel
theorem dX12_word_17 : decode cX12_word 17 = .ok (.invokevirtual 359, 3) := by decide +kernel
theorem dX12_word_20 : decode cX12_word 20 = .ok (.bipush 96, 2) := by decide +kernel
theorem dX12_word_22 : decode cX12_word 22 = .ok (.isub, 1) := by decide +kernel
theorem dX12_word_23 : decode cX12_word 23 = .ok (.i2l, 1) := by decide +kernel
theorem dX12_word_24 : decode cX12_word 24 = .ok (.lor, 1) := by decide +kernel
theorem dX12_word_25 : decode cX12_word 25 = .ok (.lstore_n 1, 1) := by decide +kernel
theorem dX12_word_26 : decode cX12_word 26 = .ok (.iinc 3 1, 3) := by decide +kernel
theorem dX12_word_29 : decode cX12_word 29 = .ok (.goto (-25), 3) := by decide +kernel
theorem dX12_word_32 : decode cX12_word 32 = .ok (.lload_n 1, 1) := by decide +kernel
theorem dX12_word_33 : decode cX12_word 33 = .ok (.lreturn, 1) := by decide +kernel
theorem dX12_isLetter_0 : decode cX12_isLetter 0 = .ok (.iload_n 0, 1) := by decide +kernel
theorem dX12_isLetter_1 : decode cX12_isLetter 1 = .ok (.bipush 97, 2) := by decide +kernel
theorem dX12_isLetter_3 : decode cX12_isLetter 3 = .ok (.if_icmp .lt 13, 3) := by decide +kernel
theorem dX12_isLetter_6 : decode cX12_isLetter 6 = .ok (.iload_n 0, 1) := by decide +kernel
theorem dX12_isLetter_7 : decode cX12_isLetter 7 = .ok (.bipush 122, 2) := by decide +kernel
theorem dX12_isLetter_9 : decode cX12_isLetter 9 = .ok (.if_icmp .gt 7, 3) := by decide +kernel
theorem dX12_isLetter_12 : decode cX12_isLetter 12 = .ok (.iconst 1, 1) := by decide +kernel
theorem dX12_isLetter_13 : decode cX12_isLetter 13 = .ok (.goto 4, 3) := by decide +kernel
theorem dX12_isLetter_16 : decode cX12_isLetter 16 = .ok (.iconst 0, 1) := by decide +kernel
theorem dX12_isLetter_17 : decode cX12_isLetter 17 = .ok (.ireturn, 1) := by decide +kernel
theorem dX12_isDigit_0 : decode cX12_isDigit 0 = .ok (.iload_n 0, 1) := by decide +kernel
theorem dX12_isDigit_1 : decode cX12_isDigit 1 = .ok (.bipush 48, 2) := by decide +kernel
theorem dX12_isDigit_3 : decode cX12_isDigit 3 = .ok (.if_icmp .lt 13, 3) := by decide +kernel
theorem dX12_isDigit_6 : decode cX12_isDigit 6 = .ok (.iload_n 0, 1) := by decide +kernel
theorem dX12_isDigit_7 : decode cX12_isDigit 7 = .ok (.bipush 57, 2) := by decide +kernel
theorem dX12_isDigit_9 : decode cX12_isDigit 9 = .ok (.if_icmp .gt 7, 3) := by decide +kernel
theorem dX12_isDigit_12 : decode cX12_isDigit 12 = .ok (.iconst 1, 1) := by decide +kernel
theorem dX12_isDigit_13 : decode cX12_isDigit 13 = .ok (.goto 4, 3) := by decide +kernel
theorem dX12_isDigit_16 : decode cX12_isDigit 16 = .ok (.iconst 0, 1) := by decide +kernel
theorem dX12_isDigit_17 : decode cX12_isDigit 17 = .ok (.ireturn, 1) := by decide +kernel
theorem dX12_isSign_0 : decode cX12_isSign 0 = .ok (.iload_n 0, 1) := by decide +kernel
theorem dX12_isSign_1 : decode cX12_isSign 1 = .ok (.bipush 123, 2) := by decide +kernel
theorem dX12_isSign_3 : decode cX12_isSign 3 = .ok (.if_icmp .eq 105, 3) := by decide +kernel
theorem dX12_isSign_6 : decode cX12_isSign 6 = .ok (.iload_n 0, 1) := by decide +kernel
theorem dX12_isSign_7 : decode cX12_isSign 7 = .ok (.bipush 125, 2) := by decide +kernel
theorem dX12_isSign_9 : decode cX12_isSign 9 = .ok (.if_icmp .eq 99, 3) := by decide +kernel
theorem dX12_isSign_12 : decode cX12_isSign 12 = .ok (.iload_n 0, 1) := by decide +kernel
theorem dX12_isSign_13 : decode cX12_isSign 13 = .ok (.bipush 40, 2) := by decide +kernel
theorem dX12_isSign_15 : decode cX12_isSign 15 = .ok (.if_icmp .eq 93, 3) := by decide +kernel
theorem dX12_isSign_18 : decode cX12_isSign 18 = .ok (.iload_n 0, 1) := by decide +kernel
theorem dX12_isSign_19 : decode cX12_isSign 19 = .ok (.bipush 41, 2) := by decide +kernel
theorem dX12_isSign_21 : decode cX12_isSign 21 = .ok (.if_icmp .eq 87, 3) := by decide +kernel
theorem dX12_isSign_24 : decode cX12_isSign 24 = .ok (.iload_n 0, 1) := by decide +kernel
theorem dX12_isSign_25 : decode cX12_isSign 25 = .ok (.bipush 59, 2) := by decide +kernel
theorem dX12_isSign_27 : decode cX12_isSign 27 = .ok (.if_icmp .eq 81, 3) := by decide +kernel
theorem dX12_isSign_30 : decode cX12_isSign 30 = .ok (.iload_n 0, 1) := by decide +kernel
theorem dX12_isSign_31 : decode cX12_isSign 31 = .ok (.bipush 44, 2) := by decide +kernel
theorem dX12_isSign_33 : decode cX12_isSign 33 = .ok (.if_icmp .eq 75, 3) := by decide +kernel
theorem dX12_isSign_36 : decode cX12_isSign 36 = .ok (.iload_n 0, 1) := by decide +kernel
theorem dX12_isSign_37 : decode cX12_isSign 37 = .ok (.bipush 46, 2) := by decide +kernel
theorem dX12_isSign_39 : decode cX12_isSign 39 = .ok (.if_icmp .eq 69, 3) := by decide +kernel
theorem dX12_isSign_42 : decode cX12_isSign 42 = .ok (.iload_n 0, 1) := by decide +kernel
theorem dX12_isSign_43 : decode cX12_isSign 43 = .ok (.bipush 45, 2) := by decide +kernel
theorem dX12_isSign_45 : decode cX12_isSign 45 = .ok (.if_icmp .eq 63, 3) := by decide +kernel
theorem dX12_isSign_48 : decode cX12_isSign 48 = .ok (.iload_n 0, 1) := by decide +kernel
theorem dX12_isSign_49 : decode cX12_isSign 49 = .ok (.bipush 58, 2) := by decide +kernel
theorem dX12_isSign_51 : decode cX12_isSign 51 = .ok (.if_icmp .eq 57, 3) := by decide +kernel
theorem dX12_isSign_54 : decode cX12_isSign 54 = .ok (.iload_n 0, 1) := by decide +kernel
theorem dX12_isSign_55 : decode cX12_isSign 55 = .ok (.bipush 64, 2) := by decide +kernel
theorem dX12_isSign_57 : decode cX12_isSign 57 = .ok (.if_icmp .eq 51, 3) := by decide +kernel
theorem dX12_isSign_60 : decode cX12_isSign 60 = .ok (.iload_n 0, 1) := by decide +kernel
theorem dX12_isSign_61 : decode cX12_isSign 61 = .ok (.bipush 47, 2) := by decide +kernel
theorem dX12_isSign_63 : decode cX12_isSign 63 = .ok (.if_icmp .eq 45, 3) := by decide +kernel
theorem dX12_isSign_66 : decode cX12_isSign 66 = .ok (.iload_n 0, 1) := by decide +kernel
theorem dX12_isSign_67 : decode cX12_isSign 67 = .ok (.bipush 124, 2) := by decide +kernel
theorem dX12_isSign_69 : decode cX12_isSign 69 = .ok (.if_icmp .eq 39, 3) := by decide +kernel
theorem dX12_isSign_72 : decode cX12_isSign 72 = .ok (.iload_n 0, 1) := by decide +kernel
theorem dX12_isSign_73 : decode cX12_isSign 73 = .ok (.bipush 38, 2) := by decide +kernel
theorem dX12_isSign_75 : decode cX12_isSign 75 = .ok (.if_icmp .eq 33, 3) := by decide +kernel
theorem dX12_isSign_78 : decode cX12_isSign 78 = .ok (.iload_n 0, 1) := by decide +kernel
theorem dX12_isSign_79 : decode cX12_isSign 79 = .ok (.bipush 33, 2) := by decide +kernel
theorem dX12_isSign_81 : decode cX12_isSign 81 = .ok (.if_icmp .eq 27, 3) := by decide +kernel
theorem dX12_isSign_84 : decode cX12_isSign 84 = .ok (.iload_n 0, 1) := by decide +kernel
theorem dX12_isSign_85 : decode cX12_isSign 85 = .ok (.bipush 60, 2) := by decide +kernel
theorem dX12_isSign_87 : decode cX12_isSign 87 = .ok (.if_icmp .eq 21, 3) := by decide +kernel
theorem dX12_isSign_90 : decode cX12_isSign 90 = .ok (.iload_n 0, 1) := by decide +kernel
theorem dX12_isSign_91 : decode cX12_isSign 91 = .ok (.bipush 62, 2) := by decide +kernel
theorem dX12_isSign_93 : decode cX12_isSign 93 = .ok (.if_icmp .eq 15, 3) := by decide +kernel
theorem dX12_isSign_96 : decode cX12_isSign 96 = .ok (.iload_n 0, 1) := by decide +kernel
theorem dX12_isSign_97 : decode cX12_isSign 97 = .ok (.bipush 43, 2) := by decide +kernel
theorem dX12_isSign_99 : decode cX12_isSign 99 = .ok (.if_icmp .eq 9, 3) := by decide +kernel
theorem dX12_isSign_102 : decode cX12_isSign 102 = .ok (.iload_n 0, 1) := by decide +kernel
theorem dX12_isSign_103 : decode cX12_isSign 103 = .ok (.bipush 37, 2) := by decide +kernel
theorem dX12_isSign_105 : decode cX12_isSign 105 = .ok (.if_icmp .ne 7, 3) := by decide +kernel
theorem dX12_isSign_108 : decode cX12_isSign 108 = .ok (.iconst 1, 1) := by decide +kernel
theorem dX12_isSign_109 : decode cX12_isSign 109 = .ok (.goto 4, 3) := by decide +kernel
theorem dX12_isSign_112 : decode cX12_isSign 112 = .ok (.iconst 0, 1) := by decide +kernel
theorem dX12_isSign_113 : decode cX12_isSign 113 = .ok (.ireturn, 1) := by decide +kernel
theorem dX12_read_0 : decode cX12_read 0 = .ok (.aload_n 0, 1) := by decide +kernel
theorem dX12_read_1 : decode cX12_read 1 = .ok (.getfield 345, 3) := by decide +kernel
theorem dX12_read_4 : decode cX12_read 4 = .ok (.istore_n 1, 1) := by decide +kernel
theorem dX12_read_5 : decode cX12_read 5 = .ok (.aload_n 0, 1) := by decide +kernel
theorem dX12_read_6 : decode cX12_read 6 = .ok (.iconst 0, 1) := by decide +kernel
theorem dX12_read_7 : decode cX12_read 7 = .ok (.putfield 345, 3) := by decide +kernel
theorem dX12_read_10 : decode cX12_read 10 = .ok (.iconst 0, 1) := by decide +kernel
theorem dX12_read_11 : decode cX12_read 11 = .ok (.istore_n 2, 1) := by decide +kernel
theorem dX12_read_12 : decode cX12_read 12 = .ok (.iconst 0, 1) := by decide +kernel
theorem dX12_read_13 : decode cX12_read 13 = .ok (.istore_n 3, 1) := by decide +kernel
theorem dX12_read_14 : decode cX12_read 14 = .ok (.iload_n 3, 1) := by decide +kernel
theorem dX12_read_15 : decode cX12_read 15 = .ok (.iload_n 1, 1) := by decide +kernel
theorem dX12_read_16 : decode cX12_read 16 = .ok (.if_icmp .ge 304, 3) := by decide +kernel
theorem dX12_read_19 : decode cX12_read 19 = .ok (.aload_n 0, 1) := by decide +kernel
theorem dX12_read_20 : decode cX12_read 20 = .ok (.getfield 9, 3) := by decide +kernel
theorem dX12_read_23 : decode cX12_read 23 = .ok (.iload_n 3, 1) := by decide +kernel
theorem dX12_read_24 : decode cX12_read 24 = .ok (.baload, 1) := by decide +kernel
theorem dX12_read_25 : decode cX12_read 25 = .ok (.istore 4, 2) := by decide +kernel
theorem dX12_read_27 : decode cX12_read 27 = .ok (.iload 4, 2) := by decide +kernel
theorem dX12_read_29 : decode cX12_read 29 = .ok (.bipush 32, 2) := by decide +kernel
theorem dX12_read_31 : decode cX12_read 31 = .ok (.if_icmp .eq 24, 3) := by decide +kernel
theorem dX12_read_34 : decode cX12_read 34 = .ok (.iload 4, 2) := by decide +kernel
theorem dX12_read_36 : decode cX12_read 36 = .ok (.bipush 9, 2) := by decide +kernel
theorem dX12_read_38 : decode cX12_read 38 = .ok (.if_icmp .eq 17, 3) := by decide +kernel
theorem dX12_read_41 : decode cX12_read 41 = .ok (.iload 4, 2) := by decide +kernel
theorem dX12_read_43 : decode cX12_read 43 = .ok (.bipush 13, 2) := by decide +kernel
theorem dX12_read_45 : decode cX12_read 45 = .ok (.if_icmp .eq 10, 3) := by decide +kernel
theorem dX12_read_48 : decode cX12_read 48 = .ok (.iload 4, 2) := by decide +kernel
theorem dX12_read_50 : decode cX12_read 50 = .ok (.bipush 10, 2) := by decide +kernel
theorem dX12_read_52 : decode cX12_read 52 = .ok (.if_icmp .ne 9, 3) := by decide +kernel
theorem dX12_read_55 : decode cX12_read 55 = .ok (.iinc 3 1, 3) := by decide +kernel
theorem dX12_read_58 : decode cX12_read 58 = .ok (.goto 259, 3) := by decide +kernel
theorem dX12_read_61 : decode cX12_read 61 = .ok (.aload_n 0, 1) := by decide +kernel
theorem dX12_read_62 : decode cX12_read 62 = .ok (.getfield 21, 3) := by decide +kernel
theorem dX12_read_65 : decode cX12_read 65 = .ok (.iload_n 2, 1) := by decide +kernel
theorem dX12_read_66 : decode cX12_read 66 = .ok (.iload_n 3, 1) := by decide +kernel
theorem dX12_read_67 : decode cX12_read 67 = .ok (.iastore, 1) := by decide +kernel
theorem dX12_read_68 : decode cX12_read 68 = .ok (.aload_n 0, 1) := by decide +kernel
theorem dX12_read_69 : decode cX12_read 69 = .ok (.getfield 17, 3) := by decide +kernel
theorem dX12_read_72 : decode cX12_read 72 = .ok (.iload_n 2, 1) := by decide +kernel
theorem dX12_read_73 : decode cX12_read 73 = .ok (.lconst 0, 1) := by decide +kernel
theorem dX12_read_74 : decode cX12_read 74 = .ok (.lastore, 1) := by decide +kernel
theorem dX12_read_75 : decode cX12_read 75 = .ok (.iload 4, 2) := by decide +kernel
theorem dX12_read_77 : decode cX12_read 77 = .ok (.invokestatic 363, 3) := by decide +kernel
theorem dX12_read_80 : decode cX12_read 80 = .ok (.ifCond .eq 77, 3) := by decide +kernel
theorem dX12_read_83 : decode cX12_read 83 = .ok (.iload_n 3, 1) := by decide +kernel
theorem dX12_read_84 : decode cX12_read 84 = .ok (.istore 5, 2) := by decide +kernel
theorem dX12_read_86 : decode cX12_read 86 = .ok (.iload_n 3, 1) := by decide +kernel
theorem dX12_read_87 : decode cX12_read 87 = .ok (.iload_n 1, 1) := by decide +kernel
theorem dX12_read_88 : decode cX12_read 88 = .ok (.if_icmp .ge 46, 3) := by decide +kernel
theorem dX12_read_91 : decode cX12_read 91 = .ok (.aload_n 0, 1) := by decide +kernel
theorem dX12_read_92 : decode cX12_read 92 = .ok (.getfield 9, 3) := by decide +kernel
theorem dX12_read_95 : decode cX12_read 95 = .ok (.iload_n 3, 1) := by decide +kernel
theorem dX12_read_96 : decode cX12_read 96 = .ok (.baload, 1) := by decide +kernel
theorem dX12_read_97 : decode cX12_read 97 = .ok (.invokestatic 363, 3) := by decide +kernel
theorem dX12_read_100 : decode cX12_read 100 = .ok (.ifCond .eq 34, 3) := by decide +kernel
theorem dX12_read_103 : decode cX12_read 103 = .ok (.aload_n 0, 1) := by decide +kernel
theorem dX12_read_104 : decode cX12_read 104 = .ok (.getfield 17, 3) := by decide +kernel
theorem dX12_read_107 : decode cX12_read 107 = .ok (.iload_n 2, 1) := by decide +kernel
theorem dX12_read_108 : decode cX12_read 108 = .ok (.aload_n 0, 1) := by decide +kernel
theorem dX12_read_109 : decode cX12_read 109 = .ok (.getfield 17, 3) := by decide +kernel
theorem dX12_read_112 : decode cX12_read 112 = .ok (.iload_n 2, 1) := by decide +kernel
theorem dX12_read_113 : decode cX12_read 113 = .ok (.laload, 1) := by decide +kernel
theorem dX12_read_114 : decode cX12_read 114 = .ok (.iconst 5, 1) := by decide +kernel
theorem dX12_read_115 : decode cX12_read 115 = .ok (.lshl, 1) := by decide +kernel
theorem dX12_read_116 : decode cX12_read 116 = .ok (.aload_n 0, 1) := by decide +kernel
theorem dX12_read_117 : decode cX12_read 117 = .ok (.getfield 9, 3) := by decide +kernel
theorem dX12_read_120 : decode cX12_read 120 = .ok (.iload_n 3, 1) := by decide +kernel
theorem dX12_read_121 : decode cX12_read 121 = .ok (.baload, 1) := by decide +kernel
theorem dX12_read_122 : decode cX12_read 122 = .ok (.bipush 96, 2) := by decide +kernel
theorem dX12_read_124 : decode cX12_read 124 = .ok (.isub, 1) := by decide +kernel
theorem dX12_read_125 : decode cX12_read 125 = .ok (.i2l, 1) := by decide +kernel
theorem dX12_read_126 : decode cX12_read 126 = .ok (.lor, 1) := by decide +kernel
theorem dX12_read_127 : decode cX12_read 127 = .ok (.lastore, 1) := by decide +kernel
theorem dX12_read_128 : decode cX12_read 128 = .ok (.iinc 3 1, 3) := by decide +kernel
theorem dX12_read_131 : decode cX12_read 131 = .ok (.goto (-45), 3) := by decide +kernel
theorem dX12_read_134 : decode cX12_read 134 = .ok (.aload_n 0, 1) := by decide +kernel
theorem dX12_read_135 : decode cX12_read 135 = .ok (.getfield 13, 3) := by decide +kernel
theorem dX12_read_138 : decode cX12_read 138 = .ok (.iload_n 2, 1) := by decide +kernel
theorem dX12_read_139 : decode cX12_read 139 = .ok (.iload_n 3, 1) := by decide +kernel
theorem dX12_read_140 : decode cX12_read 140 = .ok (.iload 5, 2) := by decide +kernel
theorem dX12_read_142 : decode cX12_read 142 = .ok (.isub, 1) := by decide +kernel
theorem dX12_read_143 : decode cX12_read 143 = .ok (.bipush 12, 2) := by decide +kernel
theorem dX12_read_145 : decode cX12_read 145 = .ok (.if_icmp .le 7, 3) := by decide +kernel
theorem dX12_read_148 : decode cX12_read 148 = .ok (.iconst 3, 1) := by decide +kernel
theorem dX12_read_149 : decode cX12_read 149 = .ok (.goto 4, 3) := by decide +kernel
theorem dX12_read_152 : decode cX12_read 152 = .ok (.iconst 1, 1) := by decide +kernel
theorem dX12_read_153 : decode cX12_read 153 = .ok (.iastore, 1) := by decide +kernel
theorem dX12_read_154 : decode cX12_read 154 = .ok (.goto 160, 3) := by decide +kernel
theorem dX12_read_157 : decode cX12_read 157 = .ok (.iload 4, 2) := by decide +kernel
theorem dX12_read_159 : decode cX12_read 159 = .ok (.invokestatic 367, 3) := by decide +kernel
theorem dX12_read_162 : decode cX12_read 162 = .ok (.ifCond .eq 129, 3) := by decide +kernel
theorem dX12_read_165 : decode cX12_read 165 = .ok (.iload_n 3, 1) := by decide +kernel
theorem dX12_read_166 : decode cX12_read 166 = .ok (.iload_n 1, 1) := by decide +kernel
theorem dX12_read_167 : decode cX12_read 167 = .ok (.if_icmp .ge 80, 3) := by decide +kernel
theorem dX12_read_170 : decode cX12_read 170 = .ok (.aload_n 0, 1) := by decide +kernel
theorem dX12_read_171 : decode cX12_read 171 = .ok (.getfield 9, 3) := by decide +kernel
theorem dX12_read_174 : decode cX12_read 174 = .ok (.iload_n 3, 1) := by decide +kernel
theorem dX12_read_175 : decode cX12_read 175 = .ok (.baload, 1) := by decide +kernel
theorem dX12_read_176 : decode cX12_read 176 = .ok (.invokestatic 367, 3) := by decide +kernel
theorem dX12_read_179 : decode cX12_read 179 = .ok (.ifCond .eq 68, 3) := by decide +kernel
theorem dX12_read_182 : decode cX12_read 182 = .ok (.aload_n 0, 1) := by decide +kernel
theorem dX12_read_183 : decode cX12_read 183 = .ok (.getfield 17, 3) := by decide +kernel
theorem dX12_read_186 : decode cX12_read 186 = .ok (.iload_n 2, 1) := by decide +kernel
theorem dX12_read_187 : decode cX12_read 187 = .ok (.aload_n 0, 1) := by decide +kernel
theorem dX12_read_188 : decode cX12_read 188 = .ok (.getfield 17, 3) := by decide +kernel
theorem dX12_read_191 : decode cX12_read 191 = .ok (.iload_n 2, 1) := by decide +kernel
theorem dX12_read_192 : decode cX12_read 192 = .ok (.laload, 1) := by decide +kernel
theorem dX12_read_193 : decode cX12_read 193 = .ok (.ldc2_w 370, 3) := by decide +kernel
theorem dX12_read_196 : decode cX12_read 196 = .ok (.lmul, 1) := by decide +kernel
theorem dX12_read_197 : decode cX12_read 197 = .ok (.aload_n 0, 1) := by decide +kernel
theorem dX12_read_198 : decode cX12_read 198 = .ok (.getfield 9, 3) := by decide +kernel
theorem dX12_read_201 : decode cX12_read 201 = .ok (.iload_n 3, 1) := by decide +kernel
theorem dX12_read_202 : decode cX12_read 202 = .ok (.baload, 1) := by decide +kernel
theorem dX12_read_203 : decode cX12_read 203 = .ok (.i2l, 1) := by decide +kernel
theorem dX12_read_204 : decode cX12_read 204 = .ok (.ladd, 1) := by decide +kernel
theorem dX12_read_205 : decode cX12_read 205 = .ok (.ldc2_w 372, 3) := by decide +kernel
theorem dX12_read_208 : decode cX12_read 208 = .ok (.lsub, 1) := by decide +kernel
theorem dX12_read_209 : decode cX12_read 209 = .ok (.lastore, 1) := by decide +kernel
theorem dX12_read_210 : decode cX12_read 210 = .ok (.aload_n 0, 1) := by decide +kernel
theorem dX12_read_211 : decode cX12_read 211 = .ok (.getfield 17, 3) := by decide +kernel
theorem dX12_read_214 : decode cX12_read 214 = .ok (.iload_n 2, 1) := by decide +kernel
theorem dX12_read_215 : decode cX12_read 215 = .ok (.aload_n 0, 1) := by decide +kernel
theorem dX12_read_216 : decode cX12_read 216 = .ok (.getfield 17, 3) := by decide +kernel
theorem dX12_read_219 : decode cX12_read 219 = .ok (.iload_n 2, 1) := by decide +kernel
theorem dX12_read_220 : decode cX12_read 220 = .ok (.laload, 1) := by decide +kernel
theorem dX12_read_221 : decode cX12_read 221 = .ok (.ldc2_w 374, 3) := by decide +kernel
theorem dX12_read_224 : decode cX12_read 224 = .ok (.lcmp, 1) := by decide +kernel
theorem dX12_read_225 : decode cX12_read 225 = .ok (.ifCond .le 9, 3) := by decide +kernel
theorem dX12_read_228 : decode cX12_read 228 = .ok (.ldc2_w 374, 3) := by decide +kernel
theorem dX12_read_231 : decode cX12_read 231 = .ok (.goto 9, 3) := by decide +kernel
theorem dX12_read_234 : decode cX12_read 234 = .ok (.aload_n 0, 1) := by decide +kernel
theorem dX12_read_235 : decode cX12_read 235 = .ok (.getfield 17, 3) := by decide +kernel
theorem dX12_read_238 : decode cX12_read 238 = .ok (.iload_n 2, 1) := by decide +kernel
theorem dX12_read_239 : decode cX12_read 239 = .ok (.laload, 1) := by decide +kernel
theorem dX12_read_240 : decode cX12_read 240 = .ok (.lastore, 1) := by decide +kernel
theorem dX12_read_241 : decode cX12_read 241 = .ok (.iinc 3 1, 3) := by decide +kernel
theorem dX12_read_244 : decode cX12_read 244 = .ok (.goto (-79), 3) := by decide +kernel
theorem dX12_read_247 : decode cX12_read 247 = .ok (.aload_n 0, 1) := by decide +kernel
theorem dX12_read_248 : decode cX12_read 248 = .ok (.getfield 13, 3) := by decide +kernel
theorem dX12_read_251 : decode cX12_read 251 = .ok (.iload_n 2, 1) := by decide +kernel
theorem dX12_read_252 : decode cX12_read 252 = .ok (.aload_n 0, 1) := by decide +kernel
theorem dX12_read_253 : decode cX12_read 253 = .ok (.getfield 17, 3) := by decide +kernel
theorem dX12_read_256 : decode cX12_read 256 = .ok (.iload_n 2, 1) := by decide +kernel
theorem dX12_read_257 : decode cX12_read 257 = .ok (.laload, 1) := by decide +kernel
theorem dX12_read_258 : decode cX12_read 258 = .ok (.ldc2_w 376, 3) := by decide +kernel
theorem dX12_read_261 : decode cX12_read 261 = .ok (.lcmp, 1) := by decide +kernel
theorem dX12_read_262 : decode cX12_read 262 = .ok (.ifCond .gt 20, 3) := by decide +kernel
theorem dX12_read_265 : decode cX12_read 265 = .ok (.iload_n 3, 1) := by decide +kernel
theorem dX12_read_266 : decode cX12_read 266 = .ok (.iload_n 1, 1) := by decide +kernel
theorem dX12_read_267 : decode cX12_read 267 = .ok (.if_icmp .ge 19, 3) := by decide +kernel
theorem dX12_read_270 : decode cX12_read 270 = .ok (.aload_n 0, 1) := by decide +kernel
theorem dX12_read_271 : decode cX12_read 271 = .ok (.getfield 9, 3) := by decide +kernel
theorem dX12_read_274 : decode cX12_read 274 = .ok (.iload_n 3, 1) := by decide +kernel
theorem dX12_read_275 : decode cX12_read 275 = .ok (.baload, 1) := by decide +kernel
theorem dX12_read_276 : decode cX12_read 276 = .ok (.invokestatic 363, 3) := by decide +kernel
theorem dX12_read_279 : decode cX12_read 279 = .ok (.ifCond .eq 7, 3) := by decide +kernel
theorem dX12_read_282 : decode cX12_read 282 = .ok (.iconst 3, 1) := by decide +kernel
theorem dX12_read_283 : decode cX12_read 283 = .ok (.goto 4, 3) := by decide +kernel
theorem dX12_read_286 : decode cX12_read 286 = .ok (.iconst 2, 1) := by decide +kernel
theorem dX12_read_287 : decode cX12_read 287 = .ok (.iastore, 1) := by decide +kernel
theorem dX12_read_288 : decode cX12_read 288 = .ok (.goto 26, 3) := by decide +kernel
theorem dX12_read_291 : decode cX12_read 291 = .ok (.aload_n 0, 1) := by decide +kernel
theorem dX12_read_292 : decode cX12_read 292 = .ok (.getfield 13, 3) := by decide +kernel
theorem dX12_read_295 : decode cX12_read 295 = .ok (.iload_n 2, 1) := by decide +kernel
theorem dX12_read_296 : decode cX12_read 296 = .ok (.iload 4, 2) := by decide +kernel
theorem dX12_read_298 : decode cX12_read 298 = .ok (.invokestatic 378, 3) := by decide +kernel
theorem dX12_read_301 : decode cX12_read 301 = .ok (.ifCond .eq 8, 3) := by decide +kernel
theorem dX12_read_304 : decode cX12_read 304 = .ok (.iload 4, 2) := by decide +kernel
theorem dX12_read_306 : decode cX12_read 306 = .ok (.goto 4, 3) := by decide +kernel
theorem dX12_read_309 : decode cX12_read 309 = .ok (.iconst 3, 1) := by decide +kernel
theorem dX12_read_310 : decode cX12_read 310 = .ok (.iastore, 1) := by decide +kernel
theorem dX12_read_311 : decode cX12_read 311 = .ok (.iinc 3 1, 3) := by decide +kernel
theorem dX12_read_314 : decode cX12_read 314 = .ok (.iinc 2 1, 3) := by decide +kernel
theorem dX12_read_317 : decode cX12_read 317 = .ok (.goto (-303), 3) := by decide +kernel
theorem dX12_read_320 : decode cX12_read 320 = .ok (.aload_n 0, 1) := by decide +kernel
theorem dX12_read_321 : decode cX12_read 321 = .ok (.getfield 13, 3) := by decide +kernel
theorem dX12_read_324 : decode cX12_read 324 = .ok (.iload_n 2, 1) := by decide +kernel
theorem dX12_read_325 : decode cX12_read 325 = .ok (.iconst 0, 1) := by decide +kernel
theorem dX12_read_326 : decode cX12_read 326 = .ok (.iastore, 1) := by decide +kernel
theorem dX12_read_327 : decode cX12_read 327 = .ok (.aload_n 0, 1) := by decide +kernel
theorem dX12_read_328 : decode cX12_read 328 = .ok (.getfield 21, 3) := by decide +kernel
theorem dX12_read_331 : decode cX12_read 331 = .ok (.iload_n 2, 1) := by decide +kernel
theorem dX12_read_332 : decode cX12_read 332 = .ok (.iload_n 1, 1) := by decide +kernel
theorem dX12_read_333 : decode cX12_read 333 = .ok (.iastore, 1) := by decide +kernel
theorem dX12_read_334 : decode cX12_read 334 = .ok (.aload_n 0, 1) := by decide +kernel
theorem dX12_read_335 : decode cX12_read 335 = .ok (.iconst 0, 1) := by decide +kernel
theorem dX12_read_336 : decode cX12_read 336 = .ok (.putfield 381, 3) := by decide +kernel
theorem dX12_read_339 : decode cX12_read 339 = .ok (.aload_n 0, 1) := by decide +kernel
theorem dX12_read_340 : decode cX12_read 340 = .ok (.iconst 0, 1) := by decide +kernel
theorem dX12_read_341 : decode cX12_read 341 = .ok (.putfield 384, 3) := by decide +kernel
theorem dX12_read_344 : decode cX12_read 344 = .ok (.aload_n 0, 1) := by decide +kernel
theorem dX12_read_345 : decode cX12_read 345 = .ok (.iconst 0, 1) := by decide +kernel
theorem dX12_read_346 : decode cX12_read 346 = .ok (.putfield 387, 3) := by decide +kernel
theorem dX12_read_349 : decode cX12_read 349 = .ok (.aload_n 0, 1) := by decide +kernel
theorem dX12_read_350 : decode cX12_read 350 = .ok (.iconst 0, 1) := by decide +kernel
theorem dX12_read_351 : decode cX12_read 351 = .ok (.putfield 390, 3) := by decide +kernel
theorem dX12_read_354 : decode cX12_read 354 = .ok (.return_, 1) := by decide +kernel
theorem dX12_tell_0 : decode cX12_tell 0 = .ok (.aload_n 0, 1) := by decide +kernel
theorem dX12_tell_1 : decode cX12_tell 1 = .ok (.getfield 384, 3) := by decide +kernel
theorem dX12_tell_4 : decode cX12_tell 4 = .ok (.ifCond .eq 27, 3) := by decide +kernel
theorem dX12_tell_7 : decode cX12_tell 7 = .ok (.iload_n 2, 1) := by decide +kernel
theorem dX12_tell_8 : decode cX12_tell 8 = .ok (.aload_n 0, 1) := by decide +kernel
theorem dX12_tell_9 : decode cX12_tell 9 = .ok (.getfield 387, 3) := by decide +kernel
theorem dX12_tell_12 : decode cX12_tell 12 = .ok (.if_icmp .lt 19, 3) := by decide +kernel
theorem dX12_tell_15 : decode cX12_tell 15 = .ok (.iload_n 2, 1) := by decide +kernel
theorem dX12_tell_16 : decode cX12_tell 16 = .ok (.aload_n 0, 1) := by decide +kernel
theorem dX12_tell_17 : decode cX12_tell 17 = .ok (.getfield 387, 3) := by decide +kernel
theorem dX12_tell_20 : decode cX12_tell 20 = .ok (.if_icmp .ne 21, 3) := by decide +kernel
theorem dX12_tell_23 : decode cX12_tell 23 = .ok (.iload_n 1, 1) := by decide +kernel
theorem dX12_tell_24 : decode cX12_tell 24 = .ok (.aload_n 0, 1) := by decide +kernel
theorem dX12_tell_25 : decode cX12_tell 25 = .ok (.getfield 384, 3) := by decide +kernel
theorem dX12_tell_28 : decode cX12_tell 28 = .ok (.if_icmp .ge 13, 3) := by decide +kernel
theorem dX12_tell_31 : decode cX12_tell 31 = .ok (.aload_n 0, 1) := by decide +kernel
theorem dX12_tell_32 : decode cX12_tell 32 = .ok (.iload_n 1, 1) := by decide +kernel
theorem dX12_tell_33 : decode cX12_tell 33 = .ok (.putfield 384, 3) := by decide +kernel
theorem dX12_tell_36 : decode cX12_tell 36 = .ok (.aload_n 0, 1) := by decide +kernel
theorem dX12_tell_37 : decode cX12_tell 37 = .ok (.iload_n 2, 1) := by decide +kernel
theorem dX12_tell_38 : decode cX12_tell 38 = .ok (.putfield 387, 3) := by decide +kernel
theorem dX12_tell_41 : decode cX12_tell 41 = .ok (.return_, 1) := by decide +kernel
theorem dX12_wrong_0 : decode cX12_wrong 0 = .ok (.aload_n 0, 1) := by decide +kernel
theorem dX12_wrong_1 : decode cX12_wrong 1 = .ok (.getfield 390, 3) := by decide +kernel
theorem dX12_wrong_4 : decode cX12_wrong 4 = .ok (.ifCond .ne 22, 3) := by decide +kernel
theorem dX12_wrong_7 : decode cX12_wrong 7 = .ok (.aload_n 0, 1) := by decide +kernel
theorem dX12_wrong_8 : decode cX12_wrong 8 = .ok (.iconst 1, 1) := by decide +kernel
theorem dX12_wrong_9 : decode cX12_wrong 9 = .ok (.aload_n 0, 1) := by decide +kernel
theorem dX12_wrong_10 : decode cX12_wrong 10 = .ok (.getfield 21, 3) := by decide +kernel
theorem dX12_wrong_13 : decode cX12_wrong 13 = .ok (.aload_n 0, 1) := by decide +kernel
theorem dX12_wrong_14 : decode cX12_wrong 14 = .ok (.getfield 381, 3) := by decide +kernel
theorem dX12_wrong_17 : decode cX12_wrong 17 = .ok (.iaload, 1) := by decide +kernel
theorem dX12_wrong_18 : decode cX12_wrong 18 = .ok (.invokevirtual 394, 3) := by decide +kernel
theorem dX12_wrong_21 : decode cX12_wrong 21 = .ok (.aload_n 0, 1) := by decide +kernel
theorem dX12_wrong_22 : decode cX12_wrong 22 = .ok (.iconst 1, 1) := by decide +kernel
theorem dX12_wrong_23 : decode cX12_wrong 23 = .ok (.putfield 390, 3) := by decide +kernel
theorem dX12_wrong_26 : decode cX12_wrong 26 = .ok (.return_, 1) := by decide +kernel
theorem dX12_isWord_0 : decode cX12_isWord 0 = .ok (.aload_n 0, 1) := by decide +kernel
theorem dX12_isWord_1 : decode cX12_isWord 1 = .ok (.getfield 390, 3) := by decide +kernel
theorem dX12_isWord_4 : decode cX12_isWord 4 = .ok (.ifCond .ne 37, 3) := by decide +kernel
theorem dX12_isWord_7 : decode cX12_isWord 7 = .ok (.aload_n 0, 1) := by decide +kernel
theorem dX12_isWord_8 : decode cX12_isWord 8 = .ok (.getfield 13, 3) := by decide +kernel
theorem dX12_isWord_11 : decode cX12_isWord 11 = .ok (.aload_n 0, 1) := by decide +kernel
theorem dX12_isWord_12 : decode cX12_isWord 12 = .ok (.getfield 381, 3) := by decide +kernel
theorem dX12_isWord_15 : decode cX12_isWord 15 = .ok (.iaload, 1) := by decide +kernel
theorem dX12_isWord_16 : decode cX12_isWord 16 = .ok (.iconst 1, 1) := by decide +kernel
theorem dX12_isWord_17 : decode cX12_isWord 17 = .ok (.if_icmp .ne 24, 3) := by decide +kernel
theorem dX12_isWord_20 : decode cX12_isWord 20 = .ok (.aload_n 0, 1) := by decide +kernel
theorem dX12_isWord_21 : decode cX12_isWord 21 = .ok (.getfield 17, 3) := by decide +kernel
theorem dX12_isWord_24 : decode cX12_isWord 24 = .ok (.aload_n 0, 1) := by decide +kernel
theorem dX12_isWord_25 : decode cX12_isWord 25 = .ok (.getfield 381, 3) := by decide +kernel
theorem dX12_isWord_28 : decode cX12_isWord 28 = .ok (.laload, 1) := by decide +kernel
theorem dX12_isWord_29 : decode cX12_isWord 29 = .ok (.aload_n 1, 1) := by decide +kernel
theorem dX12_isWord_30 : decode cX12_isWord 30 = .ok (.invokestatic 398, 3) := by decide +kernel
theorem dX12_isWord_33 : decode cX12_isWord 33 = .ok (.lcmp, 1) := by decide +kernel
theorem dX12_isWord_34 : decode cX12_isWord 34 = .ok (.ifCond .ne 7, 3) := by decide +kernel
theorem dX12_isWord_37 : decode cX12_isWord 37 = .ok (.iconst 1, 1) := by decide +kernel
theorem dX12_isWord_38 : decode cX12_isWord 38 = .ok (.goto 4, 3) := by decide +kernel
theorem dX12_isWord_41 : decode cX12_isWord 41 = .ok (.iconst 0, 1) := by decide +kernel
theorem dX12_isWord_42 : decode cX12_isWord 42 = .ok (.ireturn, 1) := by decide +kernel
theorem dX12_takeWord_0 : decode cX12_takeWord 0 = .ok (.aload_n 0, 1) := by decide +kernel
theorem dX12_takeWord_1 : decode cX12_takeWord 1 = .ok (.aload_n 1, 1) := by decide +kernel
theorem dX12_takeWord_2 : decode cX12_takeWord 2 = .ok (.invokevirtual 402, 3) := by decide +kernel
theorem dX12_takeWord_5 : decode cX12_takeWord 5 = .ok (.istore_n 2, 1) := by decide +kernel
theorem dX12_takeWord_6 : decode cX12_takeWord 6 = .ok (.aload_n 0, 1) := by decide +kernel
theorem dX12_takeWord_7 : decode cX12_takeWord 7 = .ok (.dup, 1) := by decide +kernel
theorem dX12_takeWord_8 : decode cX12_takeWord 8 = .ok (.getfield 381, 3) := by decide +kernel
theorem dX12_takeWord_11 : decode cX12_takeWord 11 = .ok (.iload_n 2, 1) := by decide +kernel
theorem dX12_takeWord_12 : decode cX12_takeWord 12 = .ok (.ifCond .eq 7, 3) := by decide +kernel
theorem dX12_takeWord_15 : decode cX12_takeWord 15 = .ok (.iconst 1, 1) := by decide +kernel
theorem dX12_takeWord_16 : decode cX12_takeWord 16 = .ok (.goto 4, 3) := by decide +kernel
theorem dX12_takeWord_19 : decode cX12_takeWord 19 = .ok (.iconst 0, 1) := by decide +kernel
theorem dX12_takeWord_20 : decode cX12_takeWord 20 = .ok (.iadd, 1) := by decide +kernel
theorem dX12_takeWord_21 : decode cX12_takeWord 21 = .ok (.putfield 381, 3) := by decide +kernel
theorem dX12_takeWord_24 : decode cX12_takeWord 24 = .ok (.iload_n 2, 1) := by decide +kernel
theorem dX12_takeWord_25 : decode cX12_takeWord 25 = .ok (.ireturn, 1) := by decide +kernel
theorem dX12_needWord_0 : decode cX12_needWord 0 = .ok (.aload_n 0, 1) := by decide +kernel
theorem dX12_needWord_1 : decode cX12_needWord 1 = .ok (.aload_n 1, 1) := by decide +kernel
theorem dX12_needWord_2 : decode cX12_needWord 2 = .ok (.invokevirtual 406, 3) := by decide +kernel
theorem dX12_needWord_5 : decode cX12_needWord 5 = .ok (.ifCond .ne 7, 3) := by decide +kernel
theorem dX12_needWord_8 : decode cX12_needWord 8 = .ok (.aload_n 0, 1) := by decide +kernel
theorem dX12_needWord_9 : decode cX12_needWord 9 = .ok (.invokevirtual 409, 3) := by decide +kernel
theorem dX12_needWord_12 : decode cX12_needWord 12 = .ok (.return_, 1) := by decide +kernel
theorem dX12_takeSign_0 : decode cX12_takeSign 0 = .ok (.aload_n 0, 1) := by decide +kernel
theorem dX12_takeSign_1 : decode cX12_takeSign 1 = .ok (.getfield 390, 3) := by decide +kernel
theorem dX12_takeSign_4 : decode cX12_takeSign 4 = .ok (.ifCond .ne 20, 3) := by decide +kernel
theorem dX12_takeSign_7 : decode cX12_takeSign 7 = .ok (.aload_n 0, 1) := by decide +kernel
theorem dX12_takeSign_8 : decode cX12_takeSign 8 = .ok (.getfield 13, 3) := by decide +kernel
theorem dX12_takeSign_11 : decode cX12_takeSign 11 = .ok (.aload_n 0, 1) := by decide +kernel
theorem dX12_takeSign_12 : decode cX12_takeSign 12 = .ok (.getfield 381, 3) := by decide +kernel
theorem dX12_takeSign_15 : decode cX12_takeSign 15 = .ok (.iaload, 1) := by decide +kernel
theorem dX12_takeSign_16 : decode cX12_takeSign 16 = .ok (.iload_n 1, 1) := by decide +kernel
theorem dX12_takeSign_17 : decode cX12_takeSign 17 = .ok (.if_icmp .ne 7, 3) := by decide +kernel
theorem dX12_takeSign_20 : decode cX12_takeSign 20 = .ok (.iconst 1, 1) := by decide +kernel
theorem dX12_takeSign_21 : decode cX12_takeSign 21 = .ok (.goto 4, 3) := by decide +kernel
theorem dX12_takeSign_24 : decode cX12_takeSign 24 = .ok (.iconst 0, 1) := by decide +kernel
theorem dX12_takeSign_25 : decode cX12_takeSign 25 = .ok (.istore_n 2, 1) := by decide +kernel
theorem dX12_takeSign_26 : decode cX12_takeSign 26 = .ok (.aload_n 0, 1) := by decide +kernel
theorem dX12_takeSign_27 : decode cX12_takeSign 27 = .ok (.dup, 1) := by decide +kernel
theorem dX12_takeSign_28 : decode cX12_takeSign 28 = .ok (.getfield 381, 3) := by decide +kernel
theorem dX12_takeSign_31 : decode cX12_takeSign 31 = .ok (.iload_n 2, 1) := by decide +kernel
theorem dX12_takeSign_32 : decode cX12_takeSign 32 = .ok (.ifCond .eq 7, 3) := by decide +kernel
theorem dX12_takeSign_35 : decode cX12_takeSign 35 = .ok (.iconst 1, 1) := by decide +kernel
theorem dX12_takeSign_36 : decode cX12_takeSign 36 = .ok (.goto 4, 3) := by decide +kernel
theorem dX12_takeSign_39 : decode cX12_takeSign 39 = .ok (.iconst 0, 1) := by decide +kernel
theorem dX12_takeSign_40 : decode cX12_takeSign 40 = .ok (.iadd, 1) := by decide +kernel
theorem dX12_takeSign_41 : decode cX12_takeSign 41 = .ok (.putfield 381, 3) := by decide +kernel
theorem dX12_takeSign_44 : decode cX12_takeSign 44 = .ok (.iload_n 2, 1) := by decide +kernel
theorem dX12_takeSign_45 : decode cX12_takeSign 45 = .ok (.ireturn, 1) := by decide +kernel
theorem dX12_needSign_0 : decode cX12_needSign 0 = .ok (.aload_n 0, 1) := by decide +kernel
theorem dX12_needSign_1 : decode cX12_needSign 1 = .ok (.iload_n 1, 1) := by decide +kernel
theorem dX12_needSign_2 : decode cX12_needSign 2 = .ok (.invokevirtual 412, 3) := by decide +kernel
theorem dX12_needSign_5 : decode cX12_needSign 5 = .ok (.ifCond .ne 7, 3) := by decide +kernel
theorem dX12_needSign_8 : decode cX12_needSign 8 = .ok (.aload_n 0, 1) := by decide +kernel
theorem dX12_needSign_9 : decode cX12_needSign 9 = .ok (.invokevirtual 409, 3) := by decide +kernel
theorem dX12_needSign_12 : decode cX12_needSign 12 = .ok (.return_, 1) := by decide +kernel
theorem dX12_number_0 : decode cX12_number 0 = .ok (.aload_n 0, 1) := by decide +kernel
theorem dX12_number_1 : decode cX12_number 1 = .ok (.getfield 390, 3) := by decide +kernel
theorem dX12_number_4 : decode cX12_number 4 = .ok (.ifCond .ne 16, 3) := by decide +kernel
theorem dX12_number_7 : decode cX12_number 7 = .ok (.aload_n 0, 1) := by decide +kernel
theorem dX12_number_8 : decode cX12_number 8 = .ok (.getfield 13, 3) := by decide +kernel
theorem dX12_number_11 : decode cX12_number 11 = .ok (.aload_n 0, 1) := by decide +kernel
theorem dX12_number_12 : decode cX12_number 12 = .ok (.getfield 381, 3) := by decide +kernel
theorem dX12_number_15 : decode cX12_number 15 = .ok (.iaload, 1) := by decide +kernel
theorem dX12_number_16 : decode cX12_number 16 = .ok (.iconst 2, 1) := by decide +kernel
theorem dX12_number_17 : decode cX12_number 17 = .ok (.if_icmp .eq 9, 3) := by decide +kernel
theorem dX12_number_20 : decode cX12_number 20 = .ok (.aload_n 0, 1) := by decide +kernel
theorem dX12_number_21 : decode cX12_number 21 = .ok (.invokevirtual 409, 3) := by decide +kernel
theorem dX12_number_24 : decode cX12_number 24 = .ok (.iload_n 1, 1) := by decide +kernel
theorem dX12_number_25 : decode cX12_number 25 = .ok (.ireturn, 1) := by decide +kernel
theorem dX12_number_26 : decode cX12_number 26 = .ok (.aload_n 0, 1) := by decide +kernel
theorem dX12_number_27 : decode cX12_number 27 = .ok (.getfield 17, 3) := by decide +kernel
theorem dX12_number_30 : decode cX12_number 30 = .ok (.aload_n 0, 1) := by decide +kernel
theorem dX12_number_31 : decode cX12_number 31 = .ok (.getfield 381, 3) := by decide +kernel
theorem dX12_number_34 : decode cX12_number 34 = .ok (.laload, 1) := by decide +kernel
theorem dX12_number_35 : decode cX12_number 35 = .ok (.l2i, 1) := by decide +kernel
theorem dX12_number_36 : decode cX12_number 36 = .ok (.istore_n 3, 1) := by decide +kernel
theorem dX12_number_37 : decode cX12_number 37 = .ok (.iload_n 3, 1) := by decide +kernel
theorem dX12_number_38 : decode cX12_number 38 = .ok (.iload_n 1, 1) := by decide +kernel
theorem dX12_number_39 : decode cX12_number 39 = .ok (.if_icmp .lt 8, 3) := by decide +kernel
theorem dX12_number_42 : decode cX12_number 42 = .ok (.iload_n 3, 1) := by decide +kernel
theorem dX12_number_43 : decode cX12_number 43 = .ok (.iload_n 2, 1) := by decide +kernel
theorem dX12_number_44 : decode cX12_number 44 = .ok (.if_icmp .le 17, 3) := by decide +kernel
theorem dX12_number_47 : decode cX12_number 47 = .ok (.aload_n 0, 1) := by decide +kernel
theorem dX12_number_48 : decode cX12_number 48 = .ok (.iconst 2, 1) := by decide +kernel
theorem dX12_number_49 : decode cX12_number 49 = .ok (.aload_n 0, 1) := by decide +kernel
theorem dX12_number_50 : decode cX12_number 50 = .ok (.getfield 21, 3) := by decide +kernel
theorem dX12_number_53 : decode cX12_number 53 = .ok (.aload_n 0, 1) := by decide +kernel
theorem dX12_number_54 : decode cX12_number 54 = .ok (.getfield 381, 3) := by decide +kernel
theorem dX12_number_57 : decode cX12_number 57 = .ok (.iaload, 1) := by decide +kernel
theorem dX12_number_58 : decode cX12_number 58 = .ok (.invokevirtual 394, 3) := by decide +kernel
theorem dX12_number_61 : decode cX12_number 61 = .ok (.aload_n 0, 1) := by decide +kernel
theorem dX12_number_62 : decode cX12_number 62 = .ok (.dup, 1) := by decide +kernel
theorem dX12_number_63 : decode cX12_number 63 = .ok (.getfield 381, 3) := by decide +kernel
theorem dX12_number_66 : decode cX12_number 66 = .ok (.iconst 1, 1) := by decide +kernel
theorem dX12_number_67 : decode cX12_number 67 = .ok (.iadd, 1) := by decide +kernel
theorem dX12_number_68 : decode cX12_number 68 = .ok (.putfield 381, 3) := by decide +kernel
theorem dX12_number_71 : decode cX12_number 71 = .ok (.iload_n 3, 1) := by decide +kernel
theorem dX12_number_72 : decode cX12_number 72 = .ok (.ireturn, 1) := by decide +kernel
theorem dX12_fault_0 : decode cX12_fault 0 = .ok (.aload_n 0, 1) := by decide +kernel
theorem dX12_fault_1 : decode cX12_fault 1 = .ok (.getfield 384, 3) := by decide +kernel
theorem dX12_fault_4 : decode cX12_fault 4 = .ok (.ireturn, 1) := by decide +kernel
theorem dX12_wasPoint_0 : decode cX12_wasPoint 0 = .ok (.aload_n 0, 1) := by decide +kernel
theorem dX12_wasPoint_1 : decode cX12_wasPoint 1 = .ok (.getfield 381, 3) := by decide +kernel
theorem dX12_wasPoint_4 : decode cX12_wasPoint 4 = .ok (.iconst 2, 1) := by decide +kernel
theorem dX12_wasPoint_5 : decode cX12_wasPoint 5 = .ok (.if_icmp .lt 23, 3) := by decide +kernel
theorem dX12_wasPoint_8 : decode cX12_wasPoint 8 = .ok (.aload_n 0, 1) := by decide +kernel
theorem dX12_wasPoint_9 : decode cX12_wasPoint 9 = .ok (.getfield 13, 3) := by decide +kernel
theorem dX12_wasPoint_12 : decode cX12_wasPoint 12 = .ok (.aload_n 0, 1) := by decide +kernel
theorem dX12_wasPoint_13 : decode cX12_wasPoint 13 = .ok (.getfield 381, 3) := by decide +kernel
theorem dX12_wasPoint_16 : decode cX12_wasPoint 16 = .ok (.iconst 2, 1) := by decide +kernel
theorem dX12_wasPoint_17 : decode cX12_wasPoint 17 = .ok (.isub, 1) := by decide +kernel
theorem dX12_wasPoint_18 : decode cX12_wasPoint 18 = .ok (.iaload, 1) := by decide +kernel
theorem dX12_wasPoint_19 : decode cX12_wasPoint 19 = .ok (.bipush 46, 2) := by decide +kernel
theorem dX12_wasPoint_21 : decode cX12_wasPoint 21 = .ok (.if_icmp .ne 7, 3) := by decide +kernel
theorem dX12_wasPoint_24 : decode cX12_wasPoint 24 = .ok (.iconst 1, 1) := by decide +kernel
theorem dX12_wasPoint_25 : decode cX12_wasPoint 25 = .ok (.goto 4, 3) := by decide +kernel
theorem dX12_wasPoint_28 : decode cX12_wasPoint 28 = .ok (.iconst 0, 1) := by decide +kernel
theorem dX12_wasPoint_29 : decode cX12_wasPoint 29 = .ok (.ireturn, 1) := by decide +kernel
theorem dX12_name_0 : decode cX12_name 0 = .ok (.aload_n 0, 1) := by decide +kernel
theorem dX12_name_1 : decode cX12_name 1 = .ok (.iconst 1, 1) := by decide +kernel
theorem dX12_name_2 : decode cX12_name 2 = .ok (.sipush 999, 3) := by decide +kernel
theorem dX12_name_5 : decode cX12_name 5 = .ok (.invokevirtual 415, 3) := by decide +kernel
theorem dX12_name_8 : decode cX12_name 8 = .ok (.istore_n 1, 1) := by decide +kernel
theorem dX12_name_9 : decode cX12_name 9 = .ok (.aload_n 0, 1) := by decide +kernel
theorem dX12_name_10 : decode cX12_name 10 = .ok (.bipush 46, 2) := by decide +kernel
theorem dX12_name_12 : decode cX12_name 12 = .ok (.invokevirtual 412, 3) := by decide +kernel
theorem dX12_name_15 : decode cX12_name 15 = .ok (.ifCond .eq 13, 3) := by decide +kernel
theorem dX12_name_18 : decode cX12_name 18 = .ok (.aload_n 0, 1) := by decide +kernel
theorem dX12_name_19 : decode cX12_name 19 = .ok (.iconst 1, 1) := by decide +kernel
theorem dX12_name_20 : decode cX12_name 20 = .ok (.bipush 99, 2) := by decide +kernel
theorem dX12_name_22 : decode cX12_name 22 = .ok (.invokevirtual 415, 3) := by decide +kernel
theorem dX12_name_25 : decode cX12_name 25 = .ok (.goto 4, 3) := by decide +kernel
theorem dX12_name_28 : decode cX12_name 28 = .ok (.iconst 0, 1) := by decide +kernel
theorem dX12_name_29 : decode cX12_name 29 = .ok (.istore_n 2, 1) := by decide +kernel
theorem dX12_name_30 : decode cX12_name 30 = .ok (.aload_n 0, 1) := by decide +kernel
theorem dX12_name_31 : decode cX12_name 31 = .ok (.iload_n 1, 1) := by decide +kernel
theorem dX12_name_32 : decode cX12_name 32 = .ok (.iconst 1, 1) := by decide +kernel
theorem dX12_name_33 : decode cX12_name 33 = .ok (.if_icmp .lt 35, 3) := by decide +kernel
theorem dX12_name_36 : decode cX12_name 36 = .ok (.iload_n 1, 1) := by decide +kernel
theorem dX12_name_37 : decode cX12_name 37 = .ok (.sipush 999, 3) := by decide +kernel
theorem dX12_name_40 : decode cX12_name 40 = .ok (.if_icmp .gt 28, 3) := by decide +kernel
theorem dX12_name_43 : decode cX12_name 43 = .ok (.iload_n 2, 1) := by decide +kernel
theorem dX12_name_44 : decode cX12_name 44 = .ok (.ifCond .lt 24, 3) := by decide +kernel
theorem dX12_name_47 : decode cX12_name 47 = .ok (.iload_n 2, 1) := by decide +kernel
theorem dX12_name_48 : decode cX12_name 48 = .ok (.bipush 99, 2) := by decide +kernel
theorem dX12_name_50 : decode cX12_name 50 = .ok (.if_icmp .gt 18, 3) := by decide +kernel
theorem dX12_name_53 : decode cX12_name 53 = .ok (.iload_n 2, 1) := by decide +kernel
theorem dX12_name_54 : decode cX12_name 54 = .ok (.ifCond .ne 10, 3) := by decide +kernel
theorem dX12_name_57 : decode cX12_name 57 = .ok (.aload_n 0, 1) := by decide +kernel
theorem dX12_name_58 : decode cX12_name 58 = .ok (.invokevirtual 419, 3) := by decide +kernel
theorem dX12_name_61 : decode cX12_name 61 = .ok (.ifCond .ne 7, 3) := by decide +kernel
theorem dX12_name_64 : decode cX12_name 64 = .ok (.iconst 1, 1) := by decide +kernel
theorem dX12_name_65 : decode cX12_name 65 = .ok (.goto 4, 3) := by decide +kernel
theorem dX12_name_68 : decode cX12_name 68 = .ok (.iconst 0, 1) := by decide +kernel
theorem dX12_name_69 : decode cX12_name 69 = .ok (.putfield 423, 3) := by decide +kernel
theorem dX12_name_72 : decode cX12_name 72 = .ok (.bipush 100, 2) := by decide +kernel
theorem dX12_name_74 : decode cX12_name 74 = .ok (.iload_n 1, 1) := by decide +kernel
theorem dX12_name_75 : decode cX12_name 75 = .ok (.imul, 1) := by decide +kernel
theorem dX12_name_76 : decode cX12_name 76 = .ok (.iload_n 2, 1) := by decide +kernel
theorem dX12_name_77 : decode cX12_name 77 = .ok (.iadd, 1) := by decide +kernel
theorem dX12_name_78 : decode cX12_name 78 = .ok (.ireturn, 1) := by decide +kernel
theorem dX12_list_0 : decode cX12_list 0 = .ok (.iload_n 1, 1) := by decide +kernel
theorem dX12_list_1 : decode cX12_list 1 = .ok (.ifCond .lt 8, 3) := by decide +kernel
theorem dX12_list_4 : decode cX12_list 4 = .ok (.iload_n 1, 1) := by decide +kernel
theorem dX12_list_5 : decode cX12_list 5 = .ok (.iconst 4, 1) := by decide +kernel
theorem dX12_list_6 : decode cX12_list 6 = .ok (.if_icmp .lt 10, 3) := by decide +kernel
theorem dX12_list_9 : decode cX12_list 9 = .ok (.aload_n 0, 1) := by decide +kernel
theorem dX12_list_10 : decode cX12_list 10 = .ok (.iconst 0, 1) := by decide +kernel
theorem dX12_list_11 : decode cX12_list 11 = .ok (.putfield 345, 3) := by decide +kernel
theorem dX12_list_14 : decode cX12_list 14 = .ok (.iconst (-1), 1) := by decide +kernel
theorem dX12_list_15 : decode cX12_list 15 = .ok (.ireturn, 1) := by decide +kernel
theorem dX12_list_16 : decode cX12_list 16 = .ok (.aload_n 0, 1) := by decide +kernel
theorem dX12_list_17 : decode cX12_list 17 = .ok (.invokevirtual 426, 3) := by decide +kernel
theorem dX12_list_20 : decode cX12_list 20 = .ok (.aload_n 0, 1) := by decide +kernel
theorem dX12_list_21 : decode cX12_list 21 = .ok (.iconst 0, 1) := by decide +kernel
theorem dX12_list_22 : decode cX12_list 22 = .ok (.putfield 429, 3) := by decide +kernel
theorem dX12_list_25 : decode cX12_list 25 = .ok (.aload_n 0, 1) := by decide +kernel
theorem dX12_list_26 : decode cX12_list 26 = .ok (.iconst 0, 1) := by decide +kernel
theorem dX12_list_27 : decode cX12_list 27 = .ok (.putfield 432, 3) := by decide +kernel
theorem dX12_list_30 : decode cX12_list 30 = .ok (.iconst 0, 1) := by decide +kernel
theorem dX12_list_31 : decode cX12_list 31 = .ok (.istore_n 2, 1) := by decide +kernel
theorem dX12_list_32 : decode cX12_list 32 = .ok (.iconst 0, 1) := by decide +kernel
theorem dX12_list_33 : decode cX12_list 33 = .ok (.istore_n 3, 1) := by decide +kernel
theorem dX12_list_34 : decode cX12_list 34 = .ok (.iconst 0, 1) := by decide +kernel
theorem dX12_list_35 : decode cX12_list 35 = .ok (.istore 4, 2) := by decide +kernel
theorem dX12_list_37 : decode cX12_list 37 = .ok (.aload_n 0, 1) := by decide +kernel
theorem dX12_list_38 : decode cX12_list 38 = .ok (.getfield 390, 3) := by decide +kernel
theorem dX12_list_41 : decode cX12_list 41 = .ok (.ifCond .ne 79, 3) := by decide +kernel
theorem dX12_list_44 : decode cX12_list 44 = .ok (.aload_n 0, 1) := by decide +kernel
theorem dX12_list_45 : decode cX12_list 45 = .ok (.getfield 13, 3) := by decide +kernel
theorem dX12_list_48 : decode cX12_list 48 = .ok (.aload_n 0, 1) := by decide +kernel
theorem dX12_list_49 : decode cX12_list 49 = .ok (.getfield 381, 3) := by decide +kernel
theorem dX12_list_52 : decode cX12_list 52 = .ok (.iaload, 1) := by decide +kernel
theorem dX12_list_53 : decode cX12_list 53 = .ok (.ifCond .eq 67, 3) := by decide +kernel
theorem dX12_list_56 : decode cX12_list 56 = .ok (.aload_n 0, 1) := by decide +kernel
theorem dX12_list_57 : decode cX12_list 57 = .ok (.getfield 21, 3) := by decide +kernel
theorem dX12_list_60 : decode cX12_list 60 = .ok (.aload_n 0, 1) := by decide +kernel
theorem dX12_list_61 : decode cX12_list 61 = .ok (.getfield 381, 3) := by decide +kernel
theorem dX12_list_64 : decode cX12_list 64 = .ok (.iaload, 1) := by decide +kernel
theorem dX12_list_65 : decode cX12_list 65 = .ok (.istore 5, 2) := by decide +kernel
theorem dX12_list_67 : decode cX12_list 67 = .ok (.aload_n 0, 1) := by decide +kernel
theorem dX12_list_68 : decode cX12_list 68 = .ok (.ldc_w 435, 3) := by decide +kernel
theorem dX12_list_71 : decode cX12_list 71 = .ok (.invokevirtual 437, 3) := by decide +kernel
theorem dX12_list_74 : decode cX12_list 74 = .ok (.aload_n 0, 1) := by decide +kernel
theorem dX12_list_75 : decode cX12_list 75 = .ok (.getfield 390, 3) := by decide +kernel
theorem dX12_list_78 : decode cX12_list 78 = .ok (.ifCond .ne 39, 3) := by decide +kernel
theorem dX12_list_81 : decode cX12_list 81 = .ok (.iinc 3 1, 3) := by decide +kernel
theorem dX12_list_84 : decode cX12_list 84 = .ok (.iload_n 3, 1) := by decide +kernel
theorem dX12_list_85 : decode cX12_list 85 = .ok (.bipush 60, 2) := by decide +kernel
theorem dX12_list_87 : decode cX12_list 87 = .ok (.if_icmp .le 10, 3) := by decide +kernel
theorem dX12_list_90 : decode cX12_list 90 = .ok (.aload_n 0, 1) := by decide +kernel
theorem dX12_list_91 : decode cX12_list 91 = .ok (.iconst 2, 1) := by decide +kernel
theorem dX12_list_92 : decode cX12_list 92 = .ok (.iload 5, 2) := by decide +kernel
theorem dX12_list_94 : decode cX12_list 94 = .ok (.invokevirtual 394, 3) := by decide +kernel
theorem dX12_list_97 : decode cX12_list 97 = .ok (.aload_n 0, 1) := by decide +kernel
theorem dX12_list_98 : decode cX12_list 98 = .ok (.iload_n 2, 1) := by decide +kernel
theorem dX12_list_99 : decode cX12_list 99 = .ok (.iload_n 3, 1) := by decide +kernel
theorem dX12_list_100 : decode cX12_list 100 = .ok (.bipush 60, 2) := by decide +kernel
theorem dX12_list_102 : decode cX12_list 102 = .ok (.if_icmp .gt 9, 3) := by decide +kernel
theorem dX12_list_105 : decode cX12_list 105 = .ok (.iload_n 3, 1) := by decide +kernel
theorem dX12_list_106 : decode cX12_list 106 = .ok (.iconst 1, 1) := by decide +kernel
theorem dX12_list_107 : decode cX12_list 107 = .ok (.isub, 1) := by decide +kernel
theorem dX12_list_108 : decode cX12_list 108 = .ok (.goto 5, 3) := by decide +kernel
theorem dX12_list_111 : decode cX12_list 111 = .ok (.bipush 59, 2) := by decide +kernel
theorem dX12_list_113 : decode cX12_list 113 = .ok (.invokevirtual 441, 3) := by decide +kernel
theorem dX12_list_116 : decode cX12_list 116 = .ok (.istore_n 2, 1) := by decide +kernel
theorem dX12_list_117 : decode cX12_list 117 = .ok (.goto (-80), 3) := by decide +kernel
theorem dX12_list_120 : decode cX12_list 120 = .ok (.aload_n 0, 1) := by decide +kernel
theorem dX12_list_121 : decode cX12_list 121 = .ok (.getfield 384, 3) := by decide +kernel
theorem dX12_list_124 : decode cX12_list 124 = .ok (.ifCond .eq 11, 3) := by decide +kernel
theorem dX12_list_127 : decode cX12_list 127 = .ok (.bipush (-10), 2) := by decide +kernel
theorem dX12_list_129 : decode cX12_list 129 = .ok (.aload_n 0, 1) := by decide +kernel
theorem dX12_list_130 : decode cX12_list 130 = .ok (.getfield 387, 3) := by decide +kernel
theorem dX12_list_133 : decode cX12_list 133 = .ok (.isub, 1) := by decide +kernel
theorem dX12_list_134 : decode cX12_list 134 = .ok (.ireturn, 1) := by decide +kernel
theorem dX12_list_135 : decode cX12_list 135 = .ok (.aload_n 0, 1) := by decide +kernel
theorem dX12_list_136 : decode cX12_list 136 = .ok (.iload_n 3, 1) := by decide +kernel
theorem dX12_list_137 : decode cX12_list 137 = .ok (.putfield 429, 3) := by decide +kernel
theorem dX12_list_140 : decode cX12_list 140 = .ok (.aload_n 0, 1) := by decide +kernel
theorem dX12_list_141 : decode cX12_list 141 = .ok (.iload_n 1, 1) := by decide +kernel
theorem dX12_list_142 : decode cX12_list 142 = .ok (.invokevirtual 443, 3) := by decide +kernel
theorem dX12_list_145 : decode cX12_list 145 = .ok (.aload_n 0, 1) := by decide +kernel
theorem dX12_list_146 : decode cX12_list 146 = .ok (.iload_n 1, 1) := by decide +kernel
theorem dX12_list_147 : decode cX12_list 147 = .ok (.invokevirtual 337, 3) := by decide +kernel
theorem dX12_list_150 : decode cX12_list 150 = .ok (.bipush 49, 2) := by decide +kernel
theorem dX12_list_152 : decode cX12_list 152 = .ok (.istore 5, 2) := by decide +kernel
theorem dX12_list_154 : decode cX12_list 154 = .ok (.iload 5, 2) := by decide +kernel
theorem dX12_list_156 : decode cX12_list 156 = .ok (.bipush 64, 2) := by decide +kernel
theorem dX12_list_158 : decode cX12_list 158 = .ok (.if_icmp .gt 38, 3) := by decide +kernel
theorem dX12_list_161 : decode cX12_list 161 = .ok (.aload_n 0, 1) := by decide +kernel
theorem dX12_list_162 : decode cX12_list 162 = .ok (.getfield 136, 3) := by decide +kernel
theorem dX12_list_165 : decode cX12_list 165 = .ok (.iload 5, 2) := by decide +kernel
theorem dX12_list_167 : decode cX12_list 167 = .ok (.aload_n 0, 1) := by decide +kernel
theorem dX12_list_168 : decode cX12_list 168 = .ok (.getfield 136, 3) := by decide +kernel
theorem dX12_list_171 : decode cX12_list 171 = .ok (.iload 5, 2) := by decide +kernel
theorem dX12_list_173 : decode cX12_list 173 = .ok (.iaload, 1) := by decide +kernel
theorem dX12_list_174 : decode cX12_list 174 = .ok (.iload_n 1, 1) := by decide +kernel
theorem dX12_list_175 : decode cX12_list 175 = .ok (.if_icmp .ne 7, 3) := by decide +kernel
theorem dX12_list_178 : decode cX12_list 178 = .ok (.iconst (-1), 1) := by decide +kernel
theorem dX12_list_179 : decode cX12_list 179 = .ok (.goto 10, 3) := by decide +kernel
theorem dX12_list_182 : decode cX12_list 182 = .ok (.aload_n 0, 1) := by decide +kernel
theorem dX12_list_183 : decode cX12_list 183 = .ok (.getfield 136, 3) := by decide +kernel
theorem dX12_list_186 : decode cX12_list 186 = .ok (.iload 5, 2) := by decide +kernel
theorem dX12_list_188 : decode cX12_list 188 = .ok (.iaload, 1) := by decide +kernel
theorem dX12_list_189 : decode cX12_list 189 = .ok (.iastore, 1) := by decide +kernel
theorem dX12_list_190 : decode cX12_list 190 = .ok (.iinc 5 1, 3) := by decide +kernel
theorem dX12_list_193 : decode cX12_list 193 = .ok (.goto (-39), 3) := by decide +kernel
theorem dX12_list_196 : decode cX12_list 196 = .ok (.iload_n 3, 1) := by decide +kernel
theorem dX12_list_197 : decode cX12_list 197 = .ok (.ireturn, 1) := by decide +kernel
theorem dX12_cue_0 : decode cX12_cue 0 = .ok (.aload_n 0, 1) := by decide +kernel
theorem dX12_cue_1 : decode cX12_cue 1 = .ok (.getfield 21, 3) := by decide +kernel
theorem dX12_cue_4 : decode cX12_cue 4 = .ok (.aload_n 0, 1) := by decide +kernel
theorem dX12_cue_5 : decode cX12_cue 5 = .ok (.getfield 381, 3) := by decide +kernel
theorem dX12_cue_8 : decode cX12_cue 8 = .ok (.iaload, 1) := by decide +kernel
theorem dX12_cue_9 : decode cX12_cue 9 = .ok (.istore_n 3, 1) := by decide +kernel
theorem dX12_cue_10 : decode cX12_cue 10 = .ok (.aload_n 0, 1) := by decide +kernel
theorem dX12_cue_11 : decode cX12_cue 11 = .ok (.invokevirtual 446, 3) := by decide +kernel
theorem dX12_cue_14 : decode cX12_cue 14 = .ok (.istore 4, 2) := by decide +kernel
theorem dX12_cue_16 : decode cX12_cue 16 = .ok (.aload_n 0, 1) := by decide +kernel
theorem dX12_cue_17 : decode cX12_cue 17 = .ok (.getfield 390, 3) := by decide +kernel
theorem dX12_cue_20 : decode cX12_cue 20 = .ok (.ifCond .ne 22, 3) := by decide +kernel
theorem dX12_cue_23 : decode cX12_cue 23 = .ok (.aload_n 0, 1) := by decide +kernel
theorem dX12_cue_24 : decode cX12_cue 24 = .ok (.getfield 423, 3) := by decide +kernel
theorem dX12_cue_27 : decode cX12_cue 27 = .ok (.ifCond .eq 15, 3) := by decide +kernel
theorem dX12_cue_30 : decode cX12_cue 30 = .ok (.iload 4, 2) := by decide +kernel
theorem dX12_cue_32 : decode cX12_cue 32 = .ok (.iload_n 1, 1) := by decide +kernel
theorem dX12_cue_33 : decode cX12_cue 33 = .ok (.if_icmp .gt 9, 3) := by decide +kernel
theorem dX12_cue_36 : decode cX12_cue 36 = .ok (.aload_n 0, 1) := by decide +kernel
theorem dX12_cue_37 : decode cX12_cue 37 = .ok (.iconst 3, 1) := by decide +kernel
theorem dX12_cue_38 : decode cX12_cue 38 = .ok (.iload_n 3, 1) := by decide +kernel
theorem dX12_cue_39 : decode cX12_cue 39 = .ok (.invokevirtual 394, 3) := by decide +kernel
theorem dX12_cue_42 : decode cX12_cue 42 = .ok (.aload_n 0, 1) := by decide +kernel
theorem dX12_cue_43 : decode cX12_cue 43 = .ok (.getfield 63, 3) := by decide +kernel
theorem dX12_cue_46 : decode cX12_cue 46 = .ok (.iload_n 2, 1) := by decide +kernel
theorem dX12_cue_47 : decode cX12_cue 47 = .ok (.iload 4, 2) := by decide +kernel
theorem dX12_cue_49 : decode cX12_cue 49 = .ok (.iastore, 1) := by decide +kernel
theorem dX12_cue_50 : decode cX12_cue 50 = .ok (.aload_n 0, 1) := by decide +kernel
theorem dX12_cue_51 : decode cX12_cue 51 = .ok (.getfield 66, 3) := by decide +kernel
theorem dX12_cue_54 : decode cX12_cue 54 = .ok (.iload_n 2, 1) := by decide +kernel
theorem dX12_cue_55 : decode cX12_cue 55 = .ok (.iconst 0, 1) := by decide +kernel
theorem dX12_cue_56 : decode cX12_cue 56 = .ok (.iastore, 1) := by decide +kernel
theorem dX12_cue_57 : decode cX12_cue 57 = .ok (.aload_n 0, 1) := by decide +kernel
theorem dX12_cue_58 : decode cX12_cue 58 = .ok (.getfield 69, 3) := by decide +kernel
theorem dX12_cue_61 : decode cX12_cue 61 = .ok (.iload_n 2, 1) := by decide +kernel
theorem dX12_cue_62 : decode cX12_cue 62 = .ok (.iconst 0, 1) := by decide +kernel
theorem dX12_cue_63 : decode cX12_cue 63 = .ok (.iastore, 1) := by decide +kernel
theorem dX12_cue_64 : decode cX12_cue 64 = .ok (.aload_n 0, 1) := by decide +kernel
theorem dX12_cue_65 : decode cX12_cue 65 = .ok (.getfield 72, 3) := by decide +kernel
theorem dX12_cue_68 : decode cX12_cue 68 = .ok (.iload_n 2, 1) := by decide +kernel
theorem dX12_cue_69 : decode cX12_cue 69 = .ok (.iconst 0, 1) := by decide +kernel
theorem dX12_cue_70 : decode cX12_cue 70 = .ok (.iastore, 1) := by decide +kernel
theorem dX12_cue_71 : decode cX12_cue 71 = .ok (.aload_n 0, 1) := by decide +kernel
theorem dX12_cue_72 : decode cX12_cue 72 = .ok (.getfield 75, 3) := by decide +kernel
theorem dX12_cue_75 : decode cX12_cue 75 = .ok (.iload_n 2, 1) := by decide +kernel
theorem dX12_cue_76 : decode cX12_cue 76 = .ok (.iconst 0, 1) := by decide +kernel
theorem dX12_cue_77 : decode cX12_cue 77 = .ok (.iastore, 1) := by decide +kernel
theorem dX12_cue_78 : decode cX12_cue 78 = .ok (.aload_n 0, 1) := by decide +kernel
theorem dX12_cue_79 : decode cX12_cue 79 = .ok (.getfield 78, 3) := by decide +kernel
theorem dX12_cue_82 : decode cX12_cue 82 = .ok (.iload_n 2, 1) := by decide +kernel
theorem dX12_cue_83 : decode cX12_cue 83 = .ok (.iconst 0, 1) := by decide +kernel
theorem dX12_cue_84 : decode cX12_cue 84 = .ok (.iastore, 1) := by decide +kernel
theorem dX12_cue_85 : decode cX12_cue 85 = .ok (.aload_n 0, 1) := by decide +kernel
theorem dX12_cue_86 : decode cX12_cue 86 = .ok (.iload_n 2, 1) := by decide +kernel
theorem dX12_cue_87 : decode cX12_cue 87 = .ok (.invokevirtual 449, 3) := by decide +kernel
theorem dX12_cue_90 : decode cX12_cue 90 = .ok (.ifCond .ne 7, 3) := by decide +kernel
theorem dX12_cue_93 : decode cX12_cue 93 = .ok (.iload_n 2, 1) := by decide +kernel
theorem dX12_cue_94 : decode cX12_cue 94 = .ok (.ifCond .ne 7, 3) := by decide +kernel
theorem dX12_cue_97 : decode cX12_cue 97 = .ok (.iconst 1, 1) := by decide +kernel
theorem dX12_cue_98 : decode cX12_cue 98 = .ok (.goto 4, 3) := by decide +kernel
theorem dX12_cue_101 : decode cX12_cue 101 = .ok (.iconst 0, 1) := by decide +kernel
theorem dX12_cue_102 : decode cX12_cue 102 = .ok (.istore 5, 2) := by decide +kernel
theorem dX12_cue_104 : decode cX12_cue 104 = .ok (.aload_n 0, 1) := by decide +kernel
theorem dX12_cue_105 : decode cX12_cue 105 = .ok (.bipush 123, 2) := by decide +kernel
theorem dX12_cue_107 : decode cX12_cue 107 = .ok (.invokevirtual 452, 3) := by decide +kernel
theorem dX12_cue_110 : decode cX12_cue 110 = .ok (.aload_n 0, 1) := by decide +kernel
theorem dX12_cue_111 : decode cX12_cue 111 = .ok (.getfield 84, 3) := by decide +kernel
theorem dX12_cue_114 : decode cX12_cue 114 = .ok (.iload_n 2, 1) := by decide +kernel
theorem dX12_cue_115 : decode cX12_cue 115 = .ok (.aload_n 0, 1) := by decide +kernel
theorem dX12_cue_116 : decode cX12_cue 116 = .ok (.getfield 432, 3) := by decide +kernel
theorem dX12_cue_119 : decode cX12_cue 119 = .ok (.iastore, 1) := by decide +kernel
theorem dX12_cue_120 : decode cX12_cue 120 = .ok (.aload_n 0, 1) := by decide +kernel
theorem dX12_cue_121 : decode cX12_cue 121 = .ok (.getfield 81, 3) := by decide +kernel
theorem dX12_cue_124 : decode cX12_cue 124 = .ok (.iload_n 2, 1) := by decide +kernel
theorem dX12_cue_125 : decode cX12_cue 125 = .ok (.iconst 0, 1) := by decide +kernel
theorem dX12_cue_126 : decode cX12_cue 126 = .ok (.iastore, 1) := by decide +kernel
theorem dX12_cue_127 : decode cX12_cue 127 = .ok (.iconst 1, 1) := by decide +kernel
theorem dX12_cue_128 : decode cX12_cue 128 = .ok (.istore 6, 2) := by decide +kernel
theorem dX12_cue_130 : decode cX12_cue 130 = .ok (.iload 6, 2) := by decide +kernel
theorem dX12_cue_132 : decode cX12_cue 132 = .ok (.bipush 64, 2) := by decide +kernel
theorem dX12_cue_134 : decode cX12_cue 134 = .ok (.if_icmp .gt 17, 3) := by decide +kernel
theorem dX12_cue_137 : decode cX12_cue 137 = .ok (.aload_n 0, 1) := by decide +kernel
theorem dX12_cue_138 : decode cX12_cue 138 = .ok (.getfield 102, 3) := by decide +kernel
theorem dX12_cue_141 : decode cX12_cue 141 = .ok (.iload 6, 2) := by decide +kernel
theorem dX12_cue_143 : decode cX12_cue 143 = .ok (.iconst 0, 1) := by decide +kernel
theorem dX12_cue_144 : decode cX12_cue 144 = .ok (.bastore, 1) := by decide +kernel
theorem dX12_cue_145 : decode cX12_cue 145 = .ok (.iinc 6 1, 3) := by decide +kernel
theorem dX12_cue_148 : decode cX12_cue 148 = .ok (.goto (-18), 3) := by decide +kernel
theorem dX12_cue_151 : decode cX12_cue 151 = .ok (.aload_n 0, 1) := by decide +kernel
theorem dX12_cue_152 : decode cX12_cue 152 = .ok (.getfield 390, 3) := by decide +kernel
theorem dX12_cue_155 : decode cX12_cue 155 = .ok (.ifCond .ne 31, 3) := by decide +kernel
theorem dX12_cue_158 : decode cX12_cue 158 = .ok (.aload_n 0, 1) := by decide +kernel
theorem dX12_cue_159 : decode cX12_cue 159 = .ok (.getfield 13, 3) := by decide +kernel
theorem dX12_cue_162 : decode cX12_cue 162 = .ok (.aload_n 0, 1) := by decide +kernel
theorem dX12_cue_163 : decode cX12_cue 163 = .ok (.getfield 381, 3) := by decide +kernel
theorem dX12_cue_166 : decode cX12_cue 166 = .ok (.iaload, 1) := by decide +kernel
theorem dX12_cue_167 : decode cX12_cue 167 = .ok (.bipush 125, 2) := by decide +kernel
theorem dX12_cue_169 : decode cX12_cue 169 = .ok (.if_icmp .eq 17, 3) := by decide +kernel
theorem dX12_cue_172 : decode cX12_cue 172 = .ok (.aload_n 0, 1) := by decide +kernel
theorem dX12_cue_173 : decode cX12_cue 173 = .ok (.iload_n 2, 1) := by decide +kernel
theorem dX12_cue_174 : decode cX12_cue 174 = .ok (.invokevirtual 455, 3) := by decide +kernel
theorem dX12_cue_177 : decode cX12_cue 177 = .ok (.aload_n 0, 1) := by decide +kernel
theorem dX12_cue_178 : decode cX12_cue 178 = .ok (.bipush 59, 2) := by decide +kernel
theorem dX12_cue_180 : decode cX12_cue 180 = .ok (.invokevirtual 452, 3) := by decide +kernel
theorem dX12_cue_183 : decode cX12_cue 183 = .ok (.goto (-32), 3) := by decide +kernel
theorem dX12_cue_186 : decode cX12_cue 186 = .ok (.aload_n 0, 1) := by decide +kernel
theorem dX12_cue_187 : decode cX12_cue 187 = .ok (.bipush 125, 2) := by decide +kernel
theorem dX12_cue_189 : decode cX12_cue 189 = .ok (.invokevirtual 452, 3) := by decide +kernel
theorem dX12_cue_192 : decode cX12_cue 192 = .ok (.iconst 1, 1) := by decide +kernel
theorem dX12_cue_193 : decode cX12_cue 193 = .ok (.istore 6, 2) := by decide +kernel
theorem dX12_cue_195 : decode cX12_cue 195 = .ok (.iload 6, 2) := by decide +kernel
theorem dX12_cue_197 : decode cX12_cue 197 = .ok (.bipush 64, 2) := by decide +kernel
theorem dX12_cue_199 : decode cX12_cue 199 = .ok (.if_icmp .gt 64, 3) := by decide +kernel
theorem dX12_cue_202 : decode cX12_cue 202 = .ok (.aload_n 0, 1) := by decide +kernel
theorem dX12_cue_203 : decode cX12_cue 203 = .ok (.getfield 87, 3) := by decide +kernel
theorem dX12_cue_206 : decode cX12_cue 206 = .ok (.bipush 65, 2) := by decide +kernel
theorem dX12_cue_208 : decode cX12_cue 208 = .ok (.iload_n 2, 1) := by decide +kernel
theorem dX12_cue_209 : decode cX12_cue 209 = .ok (.imul, 1) := by decide +kernel
theorem dX12_cue_210 : decode cX12_cue 210 = .ok (.iload 6, 2) := by decide +kernel
theorem dX12_cue_212 : decode cX12_cue 212 = .ok (.iadd, 1) := by decide +kernel
theorem dX12_cue_213 : decode cX12_cue 213 = .ok (.aload_n 0, 1) := by decide +kernel
theorem dX12_cue_214 : decode cX12_cue 214 = .ok (.getfield 102, 3) := by decide +kernel
theorem dX12_cue_217 : decode cX12_cue 217 = .ok (.iload 6, 2) := by decide +kernel
theorem dX12_cue_219 : decode cX12_cue 219 = .ok (.baload, 1) := by decide +kernel
theorem dX12_cue_220 : decode cX12_cue 220 = .ok (.ifCond .eq 13, 3) := by decide +kernel
theorem dX12_cue_223 : decode cX12_cue 223 = .ok (.aload_n 0, 1) := by decide +kernel
theorem dX12_cue_224 : decode cX12_cue 224 = .ok (.getfield 99, 3) := by decide +kernel
theorem dX12_cue_227 : decode cX12_cue 227 = .ok (.iload 6, 2) := by decide +kernel
theorem dX12_cue_229 : decode cX12_cue 229 = .ok (.iaload, 1) := by decide +kernel
theorem dX12_cue_230 : decode cX12_cue 230 = .ok (.goto 26, 3) := by decide +kernel
theorem dX12_cue_233 : decode cX12_cue 233 = .ok (.iload 5, 2) := by decide +kernel
theorem dX12_cue_235 : decode cX12_cue 235 = .ok (.ifCond .eq 7, 3) := by decide +kernel
theorem dX12_cue_238 : decode cX12_cue 238 = .ok (.iconst 0, 1) := by decide +kernel
theorem dX12_cue_239 : decode cX12_cue 239 = .ok (.goto 17, 3) := by decide +kernel
theorem dX12_cue_242 : decode cX12_cue 242 = .ok (.aload_n 0, 1) := by decide +kernel
theorem dX12_cue_243 : decode cX12_cue 243 = .ok (.getfield 87, 3) := by decide +kernel
theorem dX12_cue_246 : decode cX12_cue 246 = .ok (.bipush 65, 2) := by decide +kernel
theorem dX12_cue_248 : decode cX12_cue 248 = .ok (.iload_n 2, 1) := by decide +kernel
theorem dX12_cue_249 : decode cX12_cue 249 = .ok (.iconst 1, 1) := by decide +kernel
theorem dX12_cue_250 : decode cX12_cue 250 = .ok (.isub, 1) := by decide +kernel
theorem dX12_cue_251 : decode cX12_cue 251 = .ok (.imul, 1) := by decide +kernel
theorem dX12_cue_252 : decode cX12_cue 252 = .ok (.iload 6, 2) := by decide +kernel
theorem dX12_cue_254 : decode cX12_cue 254 = .ok (.iadd, 1) := by decide +kernel
theorem dX12_cue_255 : decode cX12_cue 255 = .ok (.iaload, 1) := by decide +kernel
theorem dX12_cue_256 : decode cX12_cue 256 = .ok (.iastore, 1) := by decide +kernel
theorem dX12_cue_257 : decode cX12_cue 257 = .ok (.iinc 6 1, 3) := by decide +kernel
theorem dX12_cue_260 : decode cX12_cue 260 = .ok (.goto (-65), 3) := by decide +kernel
theorem dX12_cue_263 : decode cX12_cue 263 = .ok (.iload 4, 2) := by decide +kernel
theorem dX12_cue_265 : decode cX12_cue 265 = .ok (.ireturn, 1) := by decide +kernel
theorem dX12_options_0 : decode cX12_options 0 = .ok (.iconst 0, 1) := by decide +kernel
theorem dX12_options_1 : decode cX12_options 1 = .ok (.istore_n 2, 1) := by decide +kernel
theorem dX12_options_2 : decode cX12_options 2 = .ok (.iconst 0, 1) := by decide +kernel
theorem dX12_options_3 : decode cX12_options 3 = .ok (.istore_n 3, 1) := by decide +kernel
theorem dX12_options_4 : decode cX12_options 4 = .ok (.iconst 0, 1) := by decide +kernel
theorem dX12_options_5 : decode cX12_options 5 = .ok (.istore 4, 2) := by decide +kernel
theorem dX12_options_7 : decode cX12_options 7 = .ok (.iconst 0, 1) := by decide +kernel
theorem dX12_options_8 : decode cX12_options 8 = .ok (.istore 5, 2) := by decide +kernel
theorem dX12_options_10 : decode cX12_options 10 = .ok (.iconst 0, 1) := by decide +kernel
theorem dX12_options_11 : decode cX12_options 11 = .ok (.istore 6, 2) := by decide +kernel
theorem dX12_options_13 : decode cX12_options 13 = .ok (.iconst 0, 1) := by decide +kernel
theorem dX12_options_14 : decode cX12_options 14 = .ok (.istore 7, 2) := by decide +kernel
theorem dX12_options_16 : decode cX12_options 16 = .ok (.aload_n 0, 1) := by decide +kernel
theorem dX12_options_17 : decode cX12_options 17 = .ok (.getfield 390, 3) := by decide +kernel
theorem dX12_options_20 : decode cX12_options 20 = .ok (.ifCond .ne 231, 3) := by decide +kernel
theorem dX12_options_23 : decode cX12_options 23 = .ok (.aload_n 0, 1) := by decide +kernel
theorem dX12_options_24 : decode cX12_options 24 = .ok (.getfield 13, 3) := by decide +kernel
theorem dX12_options_27 : decode cX12_options 27 = .ok (.aload_n 0, 1) := by decide +kernel
theorem dX12_options_28 : decode cX12_options 28 = .ok (.getfield 381, 3) := by decide +kernel
theorem dX12_options_31 : decode cX12_options 31 = .ok (.iaload, 1) := by decide +kernel
theorem dX12_options_32 : decode cX12_options 32 = .ok (.iconst 1, 1) := by decide +kernel
theorem dX12_options_33 : decode cX12_options 33 = .ok (.if_icmp .ne 218, 3) := by decide +kernel
theorem dX12_options_36 : decode cX12_options 36 = .ok (.aload_n 0, 1) := by decide +kernel
theorem dX12_options_37 : decode cX12_options 37 = .ok (.getfield 21, 3) := by decide +kernel
theorem dX12_options_40 : decode cX12_options 40 = .ok (.aload_n 0, 1) := by decide +kernel
theorem dX12_options_41 : decode cX12_options 41 = .ok (.getfield 381, 3) := by decide +kernel
theorem dX12_options_44 : decode cX12_options 44 = .ok (.iaload, 1) := by decide +kernel
theorem dX12_options_45 : decode cX12_options 45 = .ok (.istore 8, 2) := by decide +kernel
theorem dX12_options_47 : decode cX12_options 47 = .ok (.aload_n 0, 1) := by decide +kernel
theorem dX12_options_48 : decode cX12_options 48 = .ok (.ldc_w 458, 3) := by decide +kernel
theorem dX12_options_51 : decode cX12_options 51 = .ok (.invokevirtual 406, 3) := by decide +kernel
theorem dX12_options_54 : decode cX12_options 54 = .ok (.ifCond .eq 25, 3) := by decide +kernel
theorem dX12_options_57 : decode cX12_options 57 = .ok (.iload_n 2, 1) := by decide +kernel
theorem dX12_options_58 : decode cX12_options 58 = .ok (.istore 9, 2) := by decide +kernel
theorem dX12_options_60 : decode cX12_options 60 = .ok (.iconst 1, 1) := by decide +kernel
theorem dX12_options_61 : decode cX12_options 61 = .ok (.istore_n 2, 1) := by decide +kernel
theorem dX12_options_62 : decode cX12_options 62 = .ok (.aload_n 0, 1) := by decide +kernel
theorem dX12_options_63 : decode cX12_options 63 = .ok (.getfield 66, 3) := by decide +kernel
theorem dX12_options_66 : decode cX12_options 66 = .ok (.iload_n 1, 1) := by decide +kernel
theorem dX12_options_67 : decode cX12_options 67 = .ok (.aload_n 0, 1) := by decide +kernel
theorem dX12_options_68 : decode cX12_options 68 = .ok (.iconst 0, 1) := by decide +kernel
theorem dX12_options_69 : decode cX12_options 69 = .ok (.sipush 9999, 3) := by decide +kernel
theorem dX12_options_72 : decode cX12_options 72 = .ok (.invokevirtual 415, 3) := by decide +kernel
theorem dX12_options_75 : decode cX12_options 75 = .ok (.iastore, 1) := by decide +kernel
theorem dX12_options_76 : decode cX12_options 76 = .ok (.goto 160, 3) := by decide +kernel
theorem dX12_options_79 : decode cX12_options 79 = .ok (.aload_n 0, 1) := by decide +kernel
theorem dX12_options_80 : decode cX12_options 80 = .ok (.ldc_w 460, 3) := by decide +kernel
theorem dX12_options_83 : decode cX12_options 83 = .ok (.invokevirtual 406, 3) := by decide +kernel
theorem dX12_options_86 : decode cX12_options 86 = .ok (.ifCond .eq 25, 3) := by decide +kernel
theorem dX12_options_89 : decode cX12_options 89 = .ok (.iload_n 3, 1) := by decide +kernel
theorem dX12_options_90 : decode cX12_options 90 = .ok (.istore 9, 2) := by decide +kernel
theorem dX12_options_92 : decode cX12_options 92 = .ok (.iconst 1, 1) := by decide +kernel
theorem dX12_options_93 : decode cX12_options 93 = .ok (.istore_n 3, 1) := by decide +kernel
theorem dX12_options_94 : decode cX12_options 94 = .ok (.aload_n 0, 1) := by decide +kernel
theorem dX12_options_95 : decode cX12_options 95 = .ok (.getfield 69, 3) := by decide +kernel
theorem dX12_options_98 : decode cX12_options 98 = .ok (.iload_n 1, 1) := by decide +kernel
theorem dX12_options_99 : decode cX12_options 99 = .ok (.aload_n 0, 1) := by decide +kernel
theorem dX12_options_100 : decode cX12_options 100 = .ok (.iconst 0, 1) := by decide +kernel
theorem dX12_options_101 : decode cX12_options 101 = .ok (.sipush 9999, 3) := by decide +kernel
theorem dX12_options_104 : decode cX12_options 104 = .ok (.invokevirtual 415, 3) := by decide +kernel
theorem dX12_options_107 : decode cX12_options 107 = .ok (.iastore, 1) := by decide +kernel
theorem dX12_options_108 : decode cX12_options 108 = .ok (.goto 128, 3) := by decide +kernel
theorem dX12_options_111 : decode cX12_options 111 = .ok (.aload_n 0, 1) := by decide +kernel
theorem dX12_options_112 : decode cX12_options 112 = .ok (.ldc_w 462, 3) := by decide +kernel
theorem dX12_options_115 : decode cX12_options 115 = .ok (.invokevirtual 406, 3) := by decide +kernel
theorem dX12_options_118 : decode cX12_options 118 = .ok (.ifCond .eq 27, 3) := by decide +kernel
theorem dX12_options_121 : decode cX12_options 121 = .ok (.iload 4, 2) := by decide +kernel
theorem dX12_options_123 : decode cX12_options 123 = .ok (.istore 9, 2) := by decide +kernel
theorem dX12_options_125 : decode cX12_options 125 = .ok (.iconst 1, 1) := by decide +kernel
theorem dX12_options_126 : decode cX12_options 126 = .ok (.istore 4, 2) := by decide +kernel
theorem dX12_options_128 : decode cX12_options 128 = .ok (.aload_n 0, 1) := by decide +kernel
theorem dX12_options_129 : decode cX12_options 129 = .ok (.getfield 72, 3) := by decide +kernel
theorem dX12_options_132 : decode cX12_options 132 = .ok (.iload_n 1, 1) := by decide +kernel
theorem dX12_options_133 : decode cX12_options 133 = .ok (.aload_n 0, 1) := by decide +kernel
theorem dX12_options_134 : decode cX12_options 134 = .ok (.iconst 0, 1) := by decide +kernel
theorem dX12_options_135 : decode cX12_options 135 = .ok (.sipush 9999, 3) := by decide +kernel
theorem dX12_options_138 : decode cX12_options 138 = .ok (.invokevirtual 415, 3) := by decide +kernel
theorem dX12_options_141 : decode cX12_options 141 = .ok (.iastore, 1) := by decide +kernel
theorem dX12_options_142 : decode cX12_options 142 = .ok (.goto 94, 3) := by decide +kernel
theorem dX12_options_145 : decode cX12_options 145 = .ok (.aload_n 0, 1) := by decide +kernel
theorem dX12_options_146 : decode cX12_options 146 = .ok (.ldc_w 464, 3) := by decide +kernel
theorem dX12_options_149 : decode cX12_options 149 = .ok (.invokevirtual 406, 3) := by decide +kernel
theorem dX12_options_152 : decode cX12_options 152 = .ok (.ifCond .eq 27, 3) := by decide +kernel
theorem dX12_options_155 : decode cX12_options 155 = .ok (.iload 5, 2) := by decide +kernel
theorem dX12_options_157 : decode cX12_options 157 = .ok (.istore 9, 2) := by decide +kernel
theorem dX12_options_159 : decode cX12_options 159 = .ok (.iconst 1, 1) := by decide +kernel
theorem dX12_options_160 : decode cX12_options 160 = .ok (.istore 5, 2) := by decide +kernel
theorem dX12_options_162 : decode cX12_options 162 = .ok (.aload_n 0, 1) := by decide +kernel
theorem dX12_options_163 : decode cX12_options 163 = .ok (.getfield 75, 3) := by decide +kernel
theorem dX12_options_166 : decode cX12_options 166 = .ok (.iload_n 1, 1) := by decide +kernel
theorem dX12_options_167 : decode cX12_options 167 = .ok (.aload_n 0, 1) := by decide +kernel
theorem dX12_options_168 : decode cX12_options 168 = .ok (.iconst 1, 1) := by decide +kernel
theorem dX12_options_169 : decode cX12_options 169 = .ok (.sipush 9999, 3) := by decide +kernel
theorem dX12_options_172 : decode cX12_options 172 = .ok (.invokevirtual 415, 3) := by decide +kernel
theorem dX12_options_175 : decode cX12_options 175 = .ok (.iastore, 1) := by decide +kernel
theorem dX12_options_176 : decode cX12_options 176 = .ok (.goto 60, 3) := by decide +kernel
theorem dX12_options_179 : decode cX12_options 179 = .ok (.aload_n 0, 1) := by decide +kernel
theorem dX12_options_180 : decode cX12_options 180 = .ok (.ldc_w 466, 3) := by decide +kernel
theorem dX12_options_183 : decode cX12_options 183 = .ok (.invokevirtual 406, 3) := by decide +kernel
theorem dX12_options_186 : decode cX12_options 186 = .ok (.ifCond .eq 13, 3) := by decide +kernel
theorem dX12_options_189 : decode cX12_options 189 = .ok (.iload 6, 2) := by decide +kernel
theorem dX12_options_191 : decode cX12_options 191 = .ok (.istore 9, 2) := by decide +kernel
theorem dX12_options_193 : decode cX12_options 193 = .ok (.iconst 1, 1) := by decide +kernel
theorem dX12_options_194 : decode cX12_options 194 = .ok (.istore 6, 2) := by decide +kernel
theorem dX12_options_196 : decode cX12_options 196 = .ok (.goto 40, 3) := by decide +kernel
theorem dX12_options_199 : decode cX12_options 199 = .ok (.aload_n 0, 1) := by decide +kernel
theorem dX12_options_200 : decode cX12_options 200 = .ok (.ldc_w 468, 3) := by decide +kernel
theorem dX12_options_203 : decode cX12_options 203 = .ok (.invokevirtual 406, 3) := by decide +kernel
theorem dX12_options_206 : decode cX12_options 206 = .ok (.ifCond .eq 23, 3) := by decide +kernel
theorem dX12_options_209 : decode cX12_options 209 = .ok (.iload 7, 2) := by decide +kernel
theorem dX12_options_211 : decode cX12_options 211 = .ok (.istore 9, 2) := by decide +kernel
theorem dX12_options_213 : decode cX12_options 213 = .ok (.iconst 1, 1) := by decide +kernel
theorem dX12_options_214 : decode cX12_options 214 = .ok (.istore 7, 2) := by decide +kernel
theorem dX12_options_216 : decode cX12_options 216 = .ok (.aload_n 0, 1) := by decide +kernel
theorem dX12_options_217 : decode cX12_options 217 = .ok (.getfield 78, 3) := by decide +kernel
theorem dX12_options_220 : decode cX12_options 220 = .ok (.iload_n 1, 1) := by decide +kernel
theorem dX12_options_221 : decode cX12_options 221 = .ok (.aload_n 0, 1) := by decide +kernel
theorem dX12_options_222 : decode cX12_options 222 = .ok (.invokevirtual 446, 3) := by decide +kernel
theorem dX12_options_225 : decode cX12_options 225 = .ok (.iastore, 1) := by decide +kernel
theorem dX12_options_226 : decode cX12_options 226 = .ok (.goto 10, 3) := by decide +kernel
theorem dX12_options_229 : decode cX12_options 229 = .ok (.iconst 0, 1) := by decide +kernel
theorem dX12_options_230 : decode cX12_options 230 = .ok (.istore 9, 2) := by decide +kernel
theorem dX12_options_232 : decode cX12_options 232 = .ok (.aload_n 0, 1) := by decide +kernel
theorem dX12_options_233 : decode cX12_options 233 = .ok (.invokevirtual 409, 3) := by decide +kernel
theorem dX12_options_236 : decode cX12_options 236 = .ok (.iload 9, 2) := by decide +kernel
theorem dX12_options_238 : decode cX12_options 238 = .ok (.ifCond .eq 10, 3) := by decide +kernel
theorem dX12_options_241 : decode cX12_options 241 = .ok (.aload_n 0, 1) := by decide +kernel
theorem dX12_options_242 : decode cX12_options 242 = .ok (.iconst 3, 1) := by decide +kernel
theorem dX12_options_243 : decode cX12_options 243 = .ok (.iload 8, 2) := by decide +kernel
theorem dX12_options_245 : decode cX12_options 245 = .ok (.invokevirtual 394, 3) := by decide +kernel
theorem dX12_options_248 : decode cX12_options 248 = .ok (.goto (-232), 3) := by decide +kernel
theorem dX12_options_251 : decode cX12_options 251 = .ok (.iload 6, 2) := by decide +kernel
theorem dX12_options_253 : decode cX12_options 253 = .ok (.ireturn, 1) := by decide +kernel
theorem dX12_act_0 : decode cX12_act 0 = .ok (.aload_n 0, 1) := by decide +kernel
theorem dX12_act_1 : decode cX12_act 1 = .ok (.getfield 21, 3) := by decide +kernel
theorem dX12_act_4 : decode cX12_act 4 = .ok (.aload_n 0, 1) := by decide +kernel
theorem dX12_act_5 : decode cX12_act 5 = .ok (.getfield 381, 3) := by decide +kernel
theorem dX12_act_8 : decode cX12_act 8 = .ok (.iaload, 1) := by decide +kernel
theorem dX12_act_9 : decode cX12_act 9 = .ok (.istore_n 2, 1) := by decide +kernel
theorem dX12_act_10 : decode cX12_act 10 = .ok (.iconst 0, 1) := by decide +kernel
theorem dX12_act_11 : decode cX12_act 11 = .ok (.istore_n 3, 1) := by decide +kernel
theorem dX12_act_12 : decode cX12_act 12 = .ok (.iconst 0, 1) := by decide +kernel
theorem dX12_act_13 : decode cX12_act 13 = .ok (.istore 4, 2) := by decide +kernel
theorem dX12_act_15 : decode cX12_act 15 = .ok (.iconst 0, 1) := by decide +kernel
theorem dX12_act_16 : decode cX12_act 16 = .ok (.istore 5, 2) := by decide +kernel
theorem dX12_act_18 : decode cX12_act 18 = .ok (.aload_n 0, 1) := by decide +kernel
theorem dX12_act_19 : decode cX12_act 19 = .ok (.ldc_w 470, 3) := by decide +kernel
theorem dX12_act_22 : decode cX12_act 22 = .ok (.invokevirtual 406, 3) := by decide +kernel
theorem dX12_act_25 : decode cX12_act 25 = .ok (.ifCond .eq 13, 3) := by decide +kernel
theorem dX12_act_28 : decode cX12_act 28 = .ok (.bipush 6, 2) := by decide +kernel
theorem dX12_act_30 : decode cX12_act 30 = .ok (.istore_n 3, 1) := by decide +kernel
theorem dX12_act_31 : decode cX12_act 31 = .ok (.aload_n 0, 1) := by decide +kernel
theorem dX12_act_32 : decode cX12_act 32 = .ok (.invokevirtual 472, 3) := by decide +kernel
theorem dX12_act_35 : decode cX12_act 35 = .ok (.goto 166, 3) := by decide +kernel
theorem dX12_act_38 : decode cX12_act 38 = .ok (.aload_n 0, 1) := by decide +kernel
theorem dX12_act_39 : decode cX12_act 39 = .ok (.ldc_w 474, 3) := by decide +kernel
theorem dX12_act_42 : decode cX12_act 42 = .ok (.invokevirtual 406, 3) := by decide +kernel
theorem dX12_act_45 : decode cX12_act 45 = .ok (.ifCond .eq 34, 3) := by decide +kernel
theorem dX12_act_48 : decode cX12_act 48 = .ok (.iconst 1, 1) := by decide +kernel
theorem dX12_act_49 : decode cX12_act 49 = .ok (.istore_n 3, 1) := by decide +kernel
theorem dX12_act_50 : decode cX12_act 50 = .ok (.aload_n 0, 1) := by decide +kernel
theorem dX12_act_51 : decode cX12_act 51 = .ok (.iconst 0, 1) := by decide +kernel
theorem dX12_act_52 : decode cX12_act 52 = .ok (.bipush 7, 2) := by decide +kernel
theorem dX12_act_54 : decode cX12_act 54 = .ok (.invokevirtual 415, 3) := by decide +kernel
theorem dX12_act_57 : decode cX12_act 57 = .ok (.istore 4, 2) := by decide +kernel
theorem dX12_act_59 : decode cX12_act 59 = .ok (.aload_n 0, 1) := by decide +kernel
theorem dX12_act_60 : decode cX12_act 60 = .ok (.ldc_w 476, 3) := by decide +kernel
theorem dX12_act_63 : decode cX12_act 63 = .ok (.invokevirtual 437, 3) := by decide +kernel
theorem dX12_act_66 : decode cX12_act 66 = .ok (.aload_n 0, 1) := by decide +kernel
theorem dX12_act_67 : decode cX12_act 67 = .ok (.iconst 0, 1) := by decide +kernel
theorem dX12_act_68 : decode cX12_act 68 = .ok (.ldc_w 478, 3) := by decide +kernel
theorem dX12_act_71 : decode cX12_act 71 = .ok (.invokevirtual 415, 3) := by decide +kernel
theorem dX12_act_74 : decode cX12_act 74 = .ok (.istore 5, 2) := by decide +kernel
theorem dX12_act_76 : decode cX12_act 76 = .ok (.goto 125, 3) := by decide +kernel
theorem dX12_act_79 : decode cX12_act 79 = .ok (.aload_n 0, 1) := by decide +kernel
theorem dX12_act_80 : decode cX12_act 80 = .ok (.ldc_w 479, 3) := by decide +kernel
theorem dX12_act_83 : decode cX12_act 83 = .ok (.invokevirtual 406, 3) := by decide +kernel
theorem dX12_act_86 : decode cX12_act 86 = .ok (.ifCond .eq 17, 3) := by decide +kernel
theorem dX12_act_89 : decode cX12_act 89 = .ok (.iconst 2, 1) := by decide +kernel
theorem dX12_act_90 : decode cX12_act 90 = .ok (.istore_n 3, 1) := by decide +kernel
theorem dX12_act_91 : decode cX12_act 91 = .ok (.aload_n 0, 1) := by decide +kernel
theorem dX12_act_92 : decode cX12_act 92 = .ok (.iconst 0, 1) := by decide +kernel
theorem dX12_act_93 : decode cX12_act 93 = .ok (.bipush 7, 2) := by decide +kernel
theorem dX12_act_95 : decode cX12_act 95 = .ok (.invokevirtual 415, 3) := by decide +kernel
theorem dX12_act_98 : decode cX12_act 98 = .ok (.istore 4, 2) := by decide +kernel
theorem dX12_act_100 : decode cX12_act 100 = .ok (.goto 101, 3) := by decide +kernel
theorem dX12_act_103 : decode cX12_act 103 = .ok (.aload_n 0, 1) := by decide +kernel
theorem dX12_act_104 : decode cX12_act 104 = .ok (.ldc_w 481, 3) := by decide +kernel
theorem dX12_act_107 : decode cX12_act 107 = .ok (.invokevirtual 406, 3) := by decide +kernel
theorem dX12_act_110 : decode cX12_act 110 = .ok (.ifCond .eq 17, 3) := by decide +kernel
theorem dX12_act_113 : decode cX12_act 113 = .ok (.iconst 3, 1) := by decide +kernel
theorem dX12_act_114 : decode cX12_act 114 = .ok (.istore_n 3, 1) := by decide +kernel
theorem dX12_act_115 : decode cX12_act 115 = .ok (.aload_n 0, 1) := by decide +kernel
theorem dX12_act_116 : decode cX12_act 116 = .ok (.iconst 0, 1) := by decide +kernel
theorem dX12_act_117 : decode cX12_act 117 = .ok (.bipush 15, 2) := by decide +kernel
theorem dX12_act_119 : decode cX12_act 119 = .ok (.invokevirtual 415, 3) := by decide +kernel
theorem dX12_act_122 : decode cX12_act 122 = .ok (.istore 4, 2) := by decide +kernel
theorem dX12_act_124 : decode cX12_act 124 = .ok (.goto 77, 3) := by decide +kernel
theorem dX12_act_127 : decode cX12_act 127 = .ok (.aload_n 0, 1) := by decide +kernel
theorem dX12_act_128 : decode cX12_act 128 = .ok (.ldc_w 483, 3) := by decide +kernel
theorem dX12_act_131 : decode cX12_act 131 = .ok (.invokevirtual 406, 3) := by decide +kernel
theorem dX12_act_134 : decode cX12_act 134 = .ok (.ifCond .eq 22, 3) := by decide +kernel
theorem dX12_act_137 : decode cX12_act 137 = .ok (.iconst 4, 1) := by decide +kernel
theorem dX12_act_138 : decode cX12_act 138 = .ok (.istore_n 3, 1) := by decide +kernel
theorem dX12_act_139 : decode cX12_act 139 = .ok (.aload_n 0, 1) := by decide +kernel
theorem dX12_act_140 : decode cX12_act 140 = .ok (.iconst 0, 1) := by decide +kernel
theorem dX12_act_141 : decode cX12_act 141 = .ok (.iconst 3, 1) := by decide +kernel
theorem dX12_act_142 : decode cX12_act 142 = .ok (.invokevirtual 415, 3) := by decide +kernel
theorem dX12_act_145 : decode cX12_act 145 = .ok (.istore 4, 2) := by decide +kernel
theorem dX12_act_147 : decode cX12_act 147 = .ok (.aload_n 0, 1) := by decide +kernel
theorem dX12_act_148 : decode cX12_act 148 = .ok (.invokevirtual 446, 3) := by decide +kernel
theorem dX12_act_151 : decode cX12_act 151 = .ok (.istore 5, 2) := by decide +kernel
theorem dX12_act_153 : decode cX12_act 153 = .ok (.goto 48, 3) := by decide +kernel
theorem dX12_act_156 : decode cX12_act 156 = .ok (.aload_n 0, 1) := by decide +kernel
theorem dX12_act_157 : decode cX12_act 157 = .ok (.ldc_w 485, 3) := by decide +kernel
theorem dX12_act_160 : decode cX12_act 160 = .ok (.invokevirtual 406, 3) := by decide +kernel
theorem dX12_act_163 : decode cX12_act 163 = .ok (.ifCond .eq 33, 3) := by decide +kernel
theorem dX12_act_166 : decode cX12_act 166 = .ok (.iconst 5, 1) := by decide +kernel
theorem dX12_act_167 : decode cX12_act 167 = .ok (.istore_n 3, 1) := by decide +kernel
theorem dX12_act_168 : decode cX12_act 168 = .ok (.aload_n 0, 1) := by decide +kernel
theorem dX12_act_169 : decode cX12_act 169 = .ok (.iconst 0, 1) := by decide +kernel
theorem dX12_act_170 : decode cX12_act 170 = .ok (.iconst 3, 1) := by decide +kernel
theorem dX12_act_171 : decode cX12_act 171 = .ok (.invokevirtual 415, 3) := by decide +kernel
theorem dX12_act_174 : decode cX12_act 174 = .ok (.istore 4, 2) := by decide +kernel
theorem dX12_act_176 : decode cX12_act 176 = .ok (.aload_n 0, 1) := by decide +kernel
theorem dX12_act_177 : decode cX12_act 177 = .ok (.ldc_w 486, 3) := by decide +kernel
theorem dX12_act_180 : decode cX12_act 180 = .ok (.invokevirtual 437, 3) := by decide +kernel
theorem dX12_act_183 : decode cX12_act 183 = .ok (.aload_n 0, 1) := by decide +kernel
theorem dX12_act_184 : decode cX12_act 184 = .ok (.iconst 0, 1) := by decide +kernel
theorem dX12_act_185 : decode cX12_act 185 = .ok (.sipush 255, 3) := by decide +kernel
theorem dX12_act_188 : decode cX12_act 188 = .ok (.invokevirtual 415, 3) := by decide +kernel
theorem dX12_act_191 : decode cX12_act 191 = .ok (.istore 5, 2) := by decide +kernel
theorem dX12_act_193 : decode cX12_act 193 = .ok (.goto 8, 3) := by decide +kernel
theorem dX12_act_196 : decode cX12_act 196 = .ok (.aload_n 0, 1) := by decide +kernel
theorem dX12_act_197 : decode cX12_act 197 = .ok (.invokevirtual 409, 3) := by decide +kernel
theorem dX12_act_200 : decode cX12_act 200 = .ok (.return_, 1) := by decide +kernel
theorem dX12_act_201 : decode cX12_act 201 = .ok (.aload_n 0, 1) := by decide +kernel
theorem dX12_act_202 : decode cX12_act 202 = .ok (.getfield 432, 3) := by decide +kernel
theorem dX12_act_205 : decode cX12_act 205 = .ok (.sipush 300, 3) := by decide +kernel
theorem dX12_act_208 : decode cX12_act 208 = .ok (.if_icmp .ne 10, 3) := by decide +kernel
theorem dX12_act_211 : decode cX12_act 211 = .ok (.aload_n 0, 1) := by decide +kernel
theorem dX12_act_212 : decode cX12_act 212 = .ok (.iconst 2, 1) := by decide +kernel
theorem dX12_act_213 : decode cX12_act 213 = .ok (.iload_n 2, 1) := by decide +kernel
theorem dX12_act_214 : decode cX12_act 214 = .ok (.invokevirtual 394, 3) := by decide +kernel
theorem dX12_act_217 : decode cX12_act 217 = .ok (.return_, 1) := by decide +kernel
theorem dX12_act_218 : decode cX12_act 218 = .ok (.aload_n 0, 1) := by decide +kernel
theorem dX12_act_219 : decode cX12_act 219 = .ok (.getfield 90, 3) := by decide +kernel
theorem dX12_act_222 : decode cX12_act 222 = .ok (.aload_n 0, 1) := by decide +kernel
theorem dX12_act_223 : decode cX12_act 223 = .ok (.getfield 432, 3) := by decide +kernel
theorem dX12_act_226 : decode cX12_act 226 = .ok (.iload_n 3, 1) := by decide +kernel
theorem dX12_act_227 : decode cX12_act 227 = .ok (.iastore, 1) := by decide +kernel
theorem dX12_act_228 : decode cX12_act 228 = .ok (.aload_n 0, 1) := by decide +kernel
theorem dX12_act_229 : decode cX12_act 229 = .ok (.getfield 93, 3) := by decide +kernel
theorem dX12_act_232 : decode cX12_act 232 = .ok (.aload_n 0, 1) := by decide +kernel
theorem dX12_act_233 : decode cX12_act 233 = .ok (.getfield 432, 3) := by decide +kernel
theorem dX12_act_236 : decode cX12_act 236 = .ok (.iload 4, 2) := by decide +kernel
theorem dX12_act_238 : decode cX12_act 238 = .ok (.iastore, 1) := by decide +kernel
theorem dX12_act_239 : decode cX12_act 239 = .ok (.aload_n 0, 1) := by decide +kernel
theorem dX12_act_240 : decode cX12_act 240 = .ok (.getfield 96, 3) := by decide +kernel
theorem dX12_act_243 : decode cX12_act 243 = .ok (.aload_n 0, 1) := by decide +kernel
theorem dX12_act_244 : decode cX12_act 244 = .ok (.getfield 432, 3) := by decide +kernel
theorem dX12_act_247 : decode cX12_act 247 = .ok (.iload 5, 2) := by decide +kernel
theorem dX12_act_249 : decode cX12_act 249 = .ok (.iastore, 1) := by decide +kernel
theorem dX12_act_250 : decode cX12_act 250 = .ok (.aload_n 0, 1) := by decide +kernel
theorem dX12_act_251 : decode cX12_act 251 = .ok (.dup, 1) := by decide +kernel
theorem dX12_act_252 : decode cX12_act 252 = .ok (.getfield 432, 3) := by decide +kernel
theorem dX12_act_255 : decode cX12_act 255 = .ok (.iconst 1, 1) := by decide +kernel
theorem dX12_act_256 : decode cX12_act 256 = .ok (.iadd, 1) := by decide +kernel
theorem dX12_act_257 : decode cX12_act 257 = .ok (.putfield 432, 3) := by decide +kernel
theorem dX12_act_260 : decode cX12_act 260 = .ok (.aload_n 0, 1) := by decide +kernel
theorem dX12_act_261 : decode cX12_act 261 = .ok (.getfield 81, 3) := by decide +kernel
theorem dX12_act_264 : decode cX12_act 264 = .ok (.iload_n 1, 1) := by decide +kernel
theorem dX12_act_265 : decode cX12_act 265 = .ok (.dup2, 1) := by decide +kernel
theorem dX12_act_266 : decode cX12_act 266 = .ok (.iaload, 1) := by decide +kernel
theorem dX12_act_267 : decode cX12_act 267 = .ok (.iconst 1, 1) := by decide +kernel
theorem dX12_act_268 : decode cX12_act 268 = .ok (.iadd, 1) := by decide +kernel
theorem dX12_act_269 : decode cX12_act 269 = .ok (.iastore, 1) := by decide +kernel
theorem dX12_act_270 : decode cX12_act 270 = .ok (.return_, 1) := by decide +kernel
theorem dX12_channels_0 : decode cX12_channels 0 = .ok (.iconst 0, 1) := by decide +kernel
theorem dX12_channels_1 : decode cX12_channels 1 = .ok (.istore_n 1, 1) := by decide +kernel
theorem dX12_channels_2 : decode cX12_channels 2 = .ok (.iload_n 1, 1) := by decide +kernel
theorem dX12_channels_3 : decode cX12_channels 3 = .ok (.bipush 65, 2) := by decide +kernel
theorem dX12_channels_5 : decode cX12_channels 5 = .ok (.if_icmp .ge 16, 3) := by decide +kernel
theorem dX12_channels_8 : decode cX12_channels 8 = .ok (.aload_n 0, 1) := by decide +kernel
theorem dX12_channels_9 : decode cX12_channels 9 = .ok (.getfield 106, 3) := by decide +kernel
theorem dX12_channels_12 : decode cX12_channels 12 = .ok (.iload_n 1, 1) := by decide +kernel
theorem dX12_channels_13 : decode cX12_channels 13 = .ok (.iconst 0, 1) := by decide +kernel
theorem dX12_channels_14 : decode cX12_channels 14 = .ok (.bastore, 1) := by decide +kernel
theorem dX12_channels_15 : decode cX12_channels 15 = .ok (.iinc 1 1, 3) := by decide +kernel
theorem dX12_channels_18 : decode cX12_channels 18 = .ok (.goto (-16), 3) := by decide +kernel
theorem dX12_channels_21 : decode cX12_channels 21 = .ok (.iconst 1, 1) := by decide +kernel
theorem dX12_channels_22 : decode cX12_channels 22 = .ok (.istore_n 1, 1) := by decide +kernel
theorem dX12_channels_23 : decode cX12_channels 23 = .ok (.iload_n 1, 1) := by decide +kernel
theorem dX12_channels_24 : decode cX12_channels 24 = .ok (.ifCond .eq 113, 3) := by decide +kernel
theorem dX12_channels_27 : decode cX12_channels 27 = .ok (.aload_n 0, 1) := by decide +kernel
theorem dX12_channels_28 : decode cX12_channels 28 = .ok (.getfield 390, 3) := by decide +kernel
theorem dX12_channels_31 : decode cX12_channels 31 = .ok (.ifCond .ne 106, 3) := by decide +kernel
theorem dX12_channels_34 : decode cX12_channels 34 = .ok (.aload_n 0, 1) := by decide +kernel
theorem dX12_channels_35 : decode cX12_channels 35 = .ok (.iconst 1, 1) := by decide +kernel
theorem dX12_channels_36 : decode cX12_channels 36 = .ok (.bipush 64, 2) := by decide +kernel
theorem dX12_channels_38 : decode cX12_channels 38 = .ok (.invokevirtual 415, 3) := by decide +kernel
theorem dX12_channels_41 : decode cX12_channels 41 = .ok (.istore_n 2, 1) := by decide +kernel
theorem dX12_channels_42 : decode cX12_channels 42 = .ok (.iload_n 2, 1) := by decide +kernel
theorem dX12_channels_43 : decode cX12_channels 43 = .ok (.istore_n 3, 1) := by decide +kernel
theorem dX12_channels_44 : decode cX12_channels 44 = .ok (.aload_n 0, 1) := by decide +kernel
theorem dX12_channels_45 : decode cX12_channels 45 = .ok (.bipush 45, 2) := by decide +kernel
theorem dX12_channels_47 : decode cX12_channels 47 = .ok (.invokevirtual 412, 3) := by decide +kernel
theorem dX12_channels_50 : decode cX12_channels 50 = .ok (.ifCond .eq 41, 3) := by decide +kernel
theorem dX12_channels_53 : decode cX12_channels 53 = .ok (.aload_n 0, 1) := by decide +kernel
theorem dX12_channels_54 : decode cX12_channels 54 = .ok (.getfield 21, 3) := by decide +kernel
theorem dX12_channels_57 : decode cX12_channels 57 = .ok (.aload_n 0, 1) := by decide +kernel
theorem dX12_channels_58 : decode cX12_channels 58 = .ok (.getfield 381, 3) := by decide +kernel
theorem dX12_channels_61 : decode cX12_channels 61 = .ok (.iaload, 1) := by decide +kernel
theorem dX12_channels_62 : decode cX12_channels 62 = .ok (.istore 4, 2) := by decide +kernel
theorem dX12_channels_64 : decode cX12_channels 64 = .ok (.aload_n 0, 1) := by decide +kernel
theorem dX12_channels_65 : decode cX12_channels 65 = .ok (.iconst 1, 1) := by decide +kernel
theorem dX12_channels_66 : decode cX12_channels 66 = .ok (.bipush 64, 2) := by decide +kernel
theorem dX12_channels_68 : decode cX12_channels 68 = .ok (.invokevirtual 415, 3) := by decide +kernel
theorem dX12_channels_71 : decode cX12_channels 71 = .ok (.istore_n 3, 1) := by decide +kernel
theorem dX12_channels_72 : decode cX12_channels 72 = .ok (.aload_n 0, 1) := by decide +kernel
theorem dX12_channels_73 : decode cX12_channels 73 = .ok (.getfield 390, 3) := by decide +kernel
theorem dX12_channels_76 : decode cX12_channels 76 = .ok (.ifCond .ne 15, 3) := by decide +kernel
theorem dX12_channels_79 : decode cX12_channels 79 = .ok (.iload_n 3, 1) := by decide +kernel
theorem dX12_channels_80 : decode cX12_channels 80 = .ok (.iload_n 2, 1) := by decide +kernel
theorem dX12_channels_81 : decode cX12_channels 81 = .ok (.if_icmp .ge 10, 3) := by decide +kernel
theorem dX12_channels_84 : decode cX12_channels 84 = .ok (.aload_n 0, 1) := by decide +kernel
theorem dX12_channels_85 : decode cX12_channels 85 = .ok (.iconst 2, 1) := by decide +kernel
theorem dX12_channels_86 : decode cX12_channels 86 = .ok (.iload 4, 2) := by decide +kernel
theorem dX12_channels_88 : decode cX12_channels 88 = .ok (.invokevirtual 394, 3) := by decide +kernel
theorem dX12_channels_91 : decode cX12_channels 91 = .ok (.iload_n 2, 1) := by decide +kernel
theorem dX12_channels_92 : decode cX12_channels 92 = .ok (.istore 4, 2) := by decide +kernel
theorem dX12_channels_94 : decode cX12_channels 94 = .ok (.iload 4, 2) := by decide +kernel
theorem dX12_channels_96 : decode cX12_channels 96 = .ok (.iload_n 3, 1) := by decide +kernel
theorem dX12_channels_97 : decode cX12_channels 97 = .ok (.if_icmp .gt 30, 3) := by decide +kernel
theorem dX12_channels_100 : decode cX12_channels 100 = .ok (.iload 4, 2) := by decide +kernel
theorem dX12_channels_102 : decode cX12_channels 102 = .ok (.iconst 1, 1) := by decide +kernel
theorem dX12_channels_103 : decode cX12_channels 103 = .ok (.if_icmp .lt 24, 3) := by decide +kernel
theorem dX12_channels_106 : decode cX12_channels 106 = .ok (.iload 4, 2) := by decide +kernel
theorem dX12_channels_108 : decode cX12_channels 108 = .ok (.bipush 64, 2) := by decide +kernel
theorem dX12_channels_110 : decode cX12_channels 110 = .ok (.if_icmp .gt 17, 3) := by decide +kernel
theorem dX12_channels_113 : decode cX12_channels 113 = .ok (.aload_n 0, 1) := by decide +kernel
theorem dX12_channels_114 : decode cX12_channels 114 = .ok (.getfield 106, 3) := by decide +kernel
theorem dX12_channels_117 : decode cX12_channels 117 = .ok (.iload 4, 2) := by decide +kernel
theorem dX12_channels_119 : decode cX12_channels 119 = .ok (.iconst 1, 1) := by decide +kernel
theorem dX12_channels_120 : decode cX12_channels 120 = .ok (.bastore, 1) := by decide +kernel
theorem dX12_channels_121 : decode cX12_channels 121 = .ok (.iinc 4 1, 3) := by decide +kernel
theorem dX12_channels_124 : decode cX12_channels 124 = .ok (.goto (-30), 3) := by decide +kernel
theorem dX12_channels_127 : decode cX12_channels 127 = .ok (.aload_n 0, 1) := by decide +kernel
theorem dX12_channels_128 : decode cX12_channels 128 = .ok (.bipush 44, 2) := by decide +kernel
theorem dX12_channels_130 : decode cX12_channels 130 = .ok (.invokevirtual 412, 3) := by decide +kernel
theorem dX12_channels_133 : decode cX12_channels 133 = .ok (.istore_n 1, 1) := by decide +kernel
theorem dX12_channels_134 : decode cX12_channels 134 = .ok (.goto (-111), 3) := by decide +kernel
theorem dX12_channels_137 : decode cX12_channels 137 = .ok (.aload_n 0, 1) := by decide +kernel
theorem dX12_channels_138 : decode cX12_channels 138 = .ok (.ldc_w 486, 3) := by decide +kernel
theorem dX12_channels_141 : decode cX12_channels 141 = .ok (.invokevirtual 437, 3) := by decide +kernel
theorem dX12_channels_144 : decode cX12_channels 144 = .ok (.aload_n 0, 1) := by decide +kernel
theorem dX12_channels_145 : decode cX12_channels 145 = .ok (.iconst 0, 1) := by decide +kernel
theorem dX12_channels_146 : decode cX12_channels 146 = .ok (.sipush 255, 3) := by decide +kernel
theorem dX12_channels_149 : decode cX12_channels 149 = .ok (.invokevirtual 415, 3) := by decide +kernel
theorem dX12_channels_152 : decode cX12_channels 152 = .ok (.istore_n 2, 1) := by decide +kernel
theorem dX12_channels_153 : decode cX12_channels 153 = .ok (.iconst 1, 1) := by decide +kernel
theorem dX12_channels_154 : decode cX12_channels 154 = .ok (.istore_n 3, 1) := by decide +kernel
theorem dX12_channels_155 : decode cX12_channels 155 = .ok (.iload_n 3, 1) := by decide +kernel
theorem dX12_channels_156 : decode cX12_channels 156 = .ok (.bipush 64, 2) := by decide +kernel
theorem dX12_channels_158 : decode cX12_channels 158 = .ok (.if_icmp .gt 32, 3) := by decide +kernel
theorem dX12_channels_161 : decode cX12_channels 161 = .ok (.aload_n 0, 1) := by decide +kernel
theorem dX12_channels_162 : decode cX12_channels 162 = .ok (.getfield 106, 3) := by decide +kernel
theorem dX12_channels_165 : decode cX12_channels 165 = .ok (.iload_n 3, 1) := by decide +kernel
theorem dX12_channels_166 : decode cX12_channels 166 = .ok (.baload, 1) := by decide +kernel
theorem dX12_channels_167 : decode cX12_channels 167 = .ok (.ifCond .eq 17, 3) := by decide +kernel
theorem dX12_channels_170 : decode cX12_channels 170 = .ok (.aload_n 0, 1) := by decide +kernel
theorem dX12_channels_171 : decode cX12_channels 171 = .ok (.getfield 102, 3) := by decide +kernel
theorem dX12_channels_174 : decode cX12_channels 174 = .ok (.iload_n 3, 1) := by decide +kernel
theorem dX12_channels_175 : decode cX12_channels 175 = .ok (.iconst 1, 1) := by decide +kernel
theorem dX12_channels_176 : decode cX12_channels 176 = .ok (.bastore, 1) := by decide +kernel
theorem dX12_channels_177 : decode cX12_channels 177 = .ok (.aload_n 0, 1) := by decide +kernel
theorem dX12_channels_178 : decode cX12_channels 178 = .ok (.getfield 99, 3) := by decide +kernel
theorem dX12_channels_181 : decode cX12_channels 181 = .ok (.iload_n 3, 1) := by decide +kernel
theorem dX12_channels_182 : decode cX12_channels 182 = .ok (.iload_n 2, 1) := by decide +kernel
theorem dX12_channels_183 : decode cX12_channels 183 = .ok (.iastore, 1) := by decide +kernel
theorem dX12_channels_184 : decode cX12_channels 184 = .ok (.iinc 3 1, 3) := by decide +kernel
theorem dX12_channels_187 : decode cX12_channels 187 = .ok (.goto (-32), 3) := by decide +kernel
theorem dX12_channels_190 : decode cX12_channels 190 = .ok (.return_, 1) := by decide +kernel
theorem dX12_keep_0 : decode cX12_keep 0 = .ok (.aload_n 0, 1) := by decide +kernel
theorem dX12_keep_1 : decode cX12_keep 1 = .ok (.getfield 24, 3) := by decide +kernel
theorem dX12_keep_4 : decode cX12_keep 4 = .ok (.iload_n 1, 1) := by decide +kernel
theorem dX12_keep_5 : decode cX12_keep 5 = .ok (.aload_n 0, 1) := by decide +kernel
theorem dX12_keep_6 : decode cX12_keep 6 = .ok (.getfield 429, 3) := by decide +kernel
theorem dX12_keep_9 : decode cX12_keep 9 = .ok (.iastore, 1) := by decide +kernel
theorem dX12_keep_10 : decode cX12_keep 10 = .ok (.iconst 0, 1) := by decide +kernel
theorem dX12_keep_11 : decode cX12_keep 11 = .ok (.istore_n 2, 1) := by decide +kernel
theorem dX12_keep_12 : decode cX12_keep 12 = .ok (.iload_n 2, 1) := by decide +kernel
theorem dX12_keep_13 : decode cX12_keep 13 = .ok (.aload_n 0, 1) := by decide +kernel
theorem dX12_keep_14 : decode cX12_keep 14 = .ok (.getfield 429, 3) := by decide +kernel
theorem dX12_keep_17 : decode cX12_keep 17 = .ok (.if_icmp .ge 152, 3) := by decide +kernel
theorem dX12_keep_20 : decode cX12_keep 20 = .ok (.iload_n 1, 1) := by decide +kernel
theorem dX12_keep_21 : decode cX12_keep 21 = .ok (.bipush 60, 2) := by decide +kernel
theorem dX12_keep_23 : decode cX12_keep 23 = .ok (.imul, 1) := by decide +kernel
theorem dX12_keep_24 : decode cX12_keep 24 = .ok (.iload_n 2, 1) := by decide +kernel
theorem dX12_keep_25 : decode cX12_keep 25 = .ok (.iadd, 1) := by decide +kernel
theorem dX12_keep_26 : decode cX12_keep 26 = .ok (.istore_n 3, 1) := by decide +kernel
theorem dX12_keep_27 : decode cX12_keep 27 = .ok (.aload_n 0, 1) := by decide +kernel
theorem dX12_keep_28 : decode cX12_keep 28 = .ok (.getfield 27, 3) := by decide +kernel
theorem dX12_keep_31 : decode cX12_keep 31 = .ok (.iload_n 3, 1) := by decide +kernel
theorem dX12_keep_32 : decode cX12_keep 32 = .ok (.aload_n 0, 1) := by decide +kernel
theorem dX12_keep_33 : decode cX12_keep 33 = .ok (.getfield 63, 3) := by decide +kernel
theorem dX12_keep_36 : decode cX12_keep 36 = .ok (.iload_n 2, 1) := by decide +kernel
theorem dX12_keep_37 : decode cX12_keep 37 = .ok (.iaload, 1) := by decide +kernel
theorem dX12_keep_38 : decode cX12_keep 38 = .ok (.iastore, 1) := by decide +kernel
theorem dX12_keep_39 : decode cX12_keep 39 = .ok (.aload_n 0, 1) := by decide +kernel
theorem dX12_keep_40 : decode cX12_keep 40 = .ok (.getfield 30, 3) := by decide +kernel
theorem dX12_keep_43 : decode cX12_keep 43 = .ok (.iload_n 3, 1) := by decide +kernel
theorem dX12_keep_44 : decode cX12_keep 44 = .ok (.aload_n 0, 1) := by decide +kernel
theorem dX12_keep_45 : decode cX12_keep 45 = .ok (.getfield 66, 3) := by decide +kernel
theorem dX12_keep_48 : decode cX12_keep 48 = .ok (.iload_n 2, 1) := by decide +kernel
theorem dX12_keep_49 : decode cX12_keep 49 = .ok (.iaload, 1) := by decide +kernel
theorem dX12_keep_50 : decode cX12_keep 50 = .ok (.iastore, 1) := by decide +kernel
theorem dX12_keep_51 : decode cX12_keep 51 = .ok (.aload_n 0, 1) := by decide +kernel
theorem dX12_keep_52 : decode cX12_keep 52 = .ok (.getfield 33, 3) := by decide +kernel
theorem dX12_keep_55 : decode cX12_keep 55 = .ok (.iload_n 3, 1) := by decide +kernel
theorem dX12_keep_56 : decode cX12_keep 56 = .ok (.aload_n 0, 1) := by decide +kernel
theorem dX12_keep_57 : decode cX12_keep 57 = .ok (.getfield 69, 3) := by decide +kernel
theorem dX12_keep_60 : decode cX12_keep 60 = .ok (.iload_n 2, 1) := by decide +kernel
theorem dX12_keep_61 : decode cX12_keep 61 = .ok (.iaload, 1) := by decide +kernel
theorem dX12_keep_62 : decode cX12_keep 62 = .ok (.iastore, 1) := by decide +kernel
theorem dX12_keep_63 : decode cX12_keep 63 = .ok (.aload_n 0, 1) := by decide +kernel
theorem dX12_keep_64 : decode cX12_keep 64 = .ok (.getfield 36, 3) := by decide +kernel
theorem dX12_keep_67 : decode cX12_keep 67 = .ok (.iload_n 3, 1) := by decide +kernel
theorem dX12_keep_68 : decode cX12_keep 68 = .ok (.aload_n 0, 1) := by decide +kernel
theorem dX12_keep_69 : decode cX12_keep 69 = .ok (.getfield 72, 3) := by decide +kernel
theorem dX12_keep_72 : decode cX12_keep 72 = .ok (.iload_n 2, 1) := by decide +kernel
theorem dX12_keep_73 : decode cX12_keep 73 = .ok (.iaload, 1) := by decide +kernel
theorem dX12_keep_74 : decode cX12_keep 74 = .ok (.iastore, 1) := by decide +kernel
theorem dX12_keep_75 : decode cX12_keep 75 = .ok (.aload_n 0, 1) := by decide +kernel
theorem dX12_keep_76 : decode cX12_keep 76 = .ok (.getfield 39, 3) := by decide +kernel
theorem dX12_keep_79 : decode cX12_keep 79 = .ok (.iload_n 3, 1) := by decide +kernel
theorem dX12_keep_80 : decode cX12_keep 80 = .ok (.aload_n 0, 1) := by decide +kernel
theorem dX12_keep_81 : decode cX12_keep 81 = .ok (.getfield 75, 3) := by decide +kernel
theorem dX12_keep_84 : decode cX12_keep 84 = .ok (.iload_n 2, 1) := by decide +kernel
theorem dX12_keep_85 : decode cX12_keep 85 = .ok (.iaload, 1) := by decide +kernel
theorem dX12_keep_86 : decode cX12_keep 86 = .ok (.iastore, 1) := by decide +kernel
theorem dX12_keep_87 : decode cX12_keep 87 = .ok (.aload_n 0, 1) := by decide +kernel
theorem dX12_keep_88 : decode cX12_keep 88 = .ok (.getfield 42, 3) := by decide +kernel
theorem dX12_keep_91 : decode cX12_keep 91 = .ok (.iload_n 3, 1) := by decide +kernel
theorem dX12_keep_92 : decode cX12_keep 92 = .ok (.aload_n 0, 1) := by decide +kernel
theorem dX12_keep_93 : decode cX12_keep 93 = .ok (.getfield 78, 3) := by decide +kernel
theorem dX12_keep_96 : decode cX12_keep 96 = .ok (.iload_n 2, 1) := by decide +kernel
theorem dX12_keep_97 : decode cX12_keep 97 = .ok (.iaload, 1) := by decide +kernel
theorem dX12_keep_98 : decode cX12_keep 98 = .ok (.iastore, 1) := by decide +kernel
theorem dX12_keep_99 : decode cX12_keep 99 = .ok (.aload_n 0, 1) := by decide +kernel
theorem dX12_keep_100 : decode cX12_keep 100 = .ok (.getfield 45, 3) := by decide +kernel
theorem dX12_keep_103 : decode cX12_keep 103 = .ok (.iload_n 3, 1) := by decide +kernel
theorem dX12_keep_104 : decode cX12_keep 104 = .ok (.aload_n 0, 1) := by decide +kernel
theorem dX12_keep_105 : decode cX12_keep 105 = .ok (.getfield 81, 3) := by decide +kernel
theorem dX12_keep_108 : decode cX12_keep 108 = .ok (.iload_n 2, 1) := by decide +kernel
theorem dX12_keep_109 : decode cX12_keep 109 = .ok (.iaload, 1) := by decide +kernel
theorem dX12_keep_110 : decode cX12_keep 110 = .ok (.iastore, 1) := by decide +kernel
theorem dX12_keep_111 : decode cX12_keep 111 = .ok (.aload_n 0, 1) := by decide +kernel
theorem dX12_keep_112 : decode cX12_keep 112 = .ok (.getfield 48, 3) := by decide +kernel
theorem dX12_keep_115 : decode cX12_keep 115 = .ok (.iload_n 3, 1) := by decide +kernel
theorem dX12_keep_116 : decode cX12_keep 116 = .ok (.aload_n 0, 1) := by decide +kernel
theorem dX12_keep_117 : decode cX12_keep 117 = .ok (.getfield 84, 3) := by decide +kernel
theorem dX12_keep_120 : decode cX12_keep 120 = .ok (.iload_n 2, 1) := by decide +kernel
theorem dX12_keep_121 : decode cX12_keep 121 = .ok (.iaload, 1) := by decide +kernel
theorem dX12_keep_122 : decode cX12_keep 122 = .ok (.iastore, 1) := by decide +kernel
theorem dX12_keep_123 : decode cX12_keep 123 = .ok (.iconst 1, 1) := by decide +kernel
theorem dX12_keep_124 : decode cX12_keep 124 = .ok (.istore 4, 2) := by decide +kernel
theorem dX12_keep_126 : decode cX12_keep 126 = .ok (.iload 4, 2) := by decide +kernel
theorem dX12_keep_128 : decode cX12_keep 128 = .ok (.bipush 64, 2) := by decide +kernel
theorem dX12_keep_130 : decode cX12_keep 130 = .ok (.if_icmp .gt 33, 3) := by decide +kernel
theorem dX12_keep_133 : decode cX12_keep 133 = .ok (.aload_n 0, 1) := by decide +kernel
theorem dX12_keep_134 : decode cX12_keep 134 = .ok (.getfield 51, 3) := by decide +kernel
theorem dX12_keep_137 : decode cX12_keep 137 = .ok (.bipush 65, 2) := by decide +kernel
theorem dX12_keep_139 : decode cX12_keep 139 = .ok (.iload_n 3, 1) := by decide +kernel
theorem dX12_keep_140 : decode cX12_keep 140 = .ok (.imul, 1) := by decide +kernel
theorem dX12_keep_141 : decode cX12_keep 141 = .ok (.iload 4, 2) := by decide +kernel
theorem dX12_keep_143 : decode cX12_keep 143 = .ok (.iadd, 1) := by decide +kernel
theorem dX12_keep_144 : decode cX12_keep 144 = .ok (.aload_n 0, 1) := by decide +kernel
theorem dX12_keep_145 : decode cX12_keep 145 = .ok (.getfield 87, 3) := by decide +kernel
theorem dX12_keep_148 : decode cX12_keep 148 = .ok (.bipush 65, 2) := by decide +kernel
theorem dX12_keep_150 : decode cX12_keep 150 = .ok (.iload_n 2, 1) := by decide +kernel
theorem dX12_keep_151 : decode cX12_keep 151 = .ok (.imul, 1) := by decide +kernel
theorem dX12_keep_152 : decode cX12_keep 152 = .ok (.iload 4, 2) := by decide +kernel
theorem dX12_keep_154 : decode cX12_keep 154 = .ok (.iadd, 1) := by decide +kernel
theorem dX12_keep_155 : decode cX12_keep 155 = .ok (.iaload, 1) := by decide +kernel
theorem dX12_keep_156 : decode cX12_keep 156 = .ok (.iastore, 1) := by decide +kernel
theorem dX12_keep_157 : decode cX12_keep 157 = .ok (.iinc 4 1, 3) := by decide +kernel
theorem dX12_keep_160 : decode cX12_keep 160 = .ok (.goto (-34), 3) := by decide +kernel
theorem dX12_keep_163 : decode cX12_keep 163 = .ok (.iinc 2 1, 3) := by decide +kernel
theorem dX12_keep_166 : decode cX12_keep 166 = .ok (.goto (-154), 3) := by decide +kernel
theorem dX12_keep_169 : decode cX12_keep 169 = .ok (.iconst 0, 1) := by decide +kernel
theorem dX12_keep_170 : decode cX12_keep 170 = .ok (.istore_n 2, 1) := by decide +kernel
theorem dX12_keep_171 : decode cX12_keep 171 = .ok (.iload_n 2, 1) := by decide +kernel
theorem dX12_keep_172 : decode cX12_keep 172 = .ok (.aload_n 0, 1) := by decide +kernel
theorem dX12_keep_173 : decode cX12_keep 173 = .ok (.getfield 432, 3) := by decide +kernel
theorem dX12_keep_176 : decode cX12_keep 176 = .ok (.if_icmp .ge 63, 3) := by decide +kernel
theorem dX12_keep_179 : decode cX12_keep 179 = .ok (.aload_n 0, 1) := by decide +kernel
theorem dX12_keep_180 : decode cX12_keep 180 = .ok (.getfield 54, 3) := by decide +kernel
theorem dX12_keep_183 : decode cX12_keep 183 = .ok (.iload_n 1, 1) := by decide +kernel
theorem dX12_keep_184 : decode cX12_keep 184 = .ok (.sipush 300, 3) := by decide +kernel
theorem dX12_keep_187 : decode cX12_keep 187 = .ok (.imul, 1) := by decide +kernel
theorem dX12_keep_188 : decode cX12_keep 188 = .ok (.iload_n 2, 1) := by decide +kernel
theorem dX12_keep_189 : decode cX12_keep 189 = .ok (.iadd, 1) := by decide +kernel
theorem dX12_keep_190 : decode cX12_keep 190 = .ok (.aload_n 0, 1) := by decide +kernel
theorem dX12_keep_191 : decode cX12_keep 191 = .ok (.getfield 90, 3) := by decide +kernel
theorem dX12_keep_194 : decode cX12_keep 194 = .ok (.iload_n 2, 1) := by decide +kernel
theorem dX12_keep_195 : decode cX12_keep 195 = .ok (.iaload, 1) := by decide +kernel
theorem dX12_keep_196 : decode cX12_keep 196 = .ok (.iastore, 1) := by decide +kernel
theorem dX12_keep_197 : decode cX12_keep 197 = .ok (.aload_n 0, 1) := by decide +kernel
theorem dX12_keep_198 : decode cX12_keep 198 = .ok (.getfield 57, 3) := by decide +kernel
theorem dX12_keep_201 : decode cX12_keep 201 = .ok (.iload_n 1, 1) := by decide +kernel
theorem dX12_keep_202 : decode cX12_keep 202 = .ok (.sipush 300, 3) := by decide +kernel
theorem dX12_keep_205 : decode cX12_keep 205 = .ok (.imul, 1) := by decide +kernel
theorem dX12_keep_206 : decode cX12_keep 206 = .ok (.iload_n 2, 1) := by decide +kernel
theorem dX12_keep_207 : decode cX12_keep 207 = .ok (.iadd, 1) := by decide +kernel
theorem dX12_keep_208 : decode cX12_keep 208 = .ok (.aload_n 0, 1) := by decide +kernel
theorem dX12_keep_209 : decode cX12_keep 209 = .ok (.getfield 93, 3) := by decide +kernel
theorem dX12_keep_212 : decode cX12_keep 212 = .ok (.iload_n 2, 1) := by decide +kernel
theorem dX12_keep_213 : decode cX12_keep 213 = .ok (.iaload, 1) := by decide +kernel
theorem dX12_keep_214 : decode cX12_keep 214 = .ok (.iastore, 1) := by decide +kernel
theorem dX12_keep_215 : decode cX12_keep 215 = .ok (.aload_n 0, 1) := by decide +kernel
theorem dX12_keep_216 : decode cX12_keep 216 = .ok (.getfield 60, 3) := by decide +kernel
theorem dX12_keep_219 : decode cX12_keep 219 = .ok (.iload_n 1, 1) := by decide +kernel
theorem dX12_keep_220 : decode cX12_keep 220 = .ok (.sipush 300, 3) := by decide +kernel
theorem dX12_keep_223 : decode cX12_keep 223 = .ok (.imul, 1) := by decide +kernel
theorem dX12_keep_224 : decode cX12_keep 224 = .ok (.iload_n 2, 1) := by decide +kernel
theorem dX12_keep_225 : decode cX12_keep 225 = .ok (.iadd, 1) := by decide +kernel
theorem dX12_keep_226 : decode cX12_keep 226 = .ok (.aload_n 0, 1) := by decide +kernel
theorem dX12_keep_227 : decode cX12_keep 227 = .ok (.getfield 96, 3) := by decide +kernel
theorem dX12_keep_230 : decode cX12_keep 230 = .ok (.iload_n 2, 1) := by decide +kernel
theorem dX12_keep_231 : decode cX12_keep 231 = .ok (.iaload, 1) := by decide +kernel
theorem dX12_keep_232 : decode cX12_keep 232 = .ok (.iastore, 1) := by decide +kernel
theorem dX12_keep_233 : decode cX12_keep 233 = .ok (.iinc 2 1, 3) := by decide +kernel
theorem dX12_keep_236 : decode cX12_keep 236 = .ok (.goto (-65), 3) := by decide +kernel
theorem dX12_keep_239 : decode cX12_keep 239 = .ok (.return_, 1) := by decide +kernel
theorem dX12_cueOf_0 : decode cX12_cueOf 0 = .ok (.iconst 0, 1) := by decide +kernel
theorem dX12_cueOf_1 : decode cX12_cueOf 1 = .ok (.istore_n 3, 1) := by decide +kernel
theorem dX12_cueOf_2 : decode cX12_cueOf 2 = .ok (.iload_n 3, 1) := by decide +kernel
theorem dX12_cueOf_3 : decode cX12_cueOf 3 = .ok (.aload_n 0, 1) := by decide +kernel
theorem dX12_cueOf_4 : decode cX12_cueOf 4 = .ok (.getfield 24, 3) := by decide +kernel
theorem dX12_cueOf_7 : decode cX12_cueOf 7 = .ok (.iload_n 1, 1) := by decide +kernel
theorem dX12_cueOf_8 : decode cX12_cueOf 8 = .ok (.iaload, 1) := by decide +kernel
theorem dX12_cueOf_9 : decode cX12_cueOf 9 = .ok (.if_icmp .ge 26, 3) := by decide +kernel
theorem dX12_cueOf_12 : decode cX12_cueOf 12 = .ok (.aload_n 0, 1) := by decide +kernel
theorem dX12_cueOf_13 : decode cX12_cueOf 13 = .ok (.getfield 27, 3) := by decide +kernel
theorem dX12_cueOf_16 : decode cX12_cueOf 16 = .ok (.iload_n 1, 1) := by decide +kernel
theorem dX12_cueOf_17 : decode cX12_cueOf 17 = .ok (.bipush 60, 2) := by decide +kernel
theorem dX12_cueOf_19 : decode cX12_cueOf 19 = .ok (.imul, 1) := by decide +kernel
theorem dX12_cueOf_20 : decode cX12_cueOf 20 = .ok (.iload_n 3, 1) := by decide +kernel
theorem dX12_cueOf_21 : decode cX12_cueOf 21 = .ok (.iadd, 1) := by decide +kernel
theorem dX12_cueOf_22 : decode cX12_cueOf 22 = .ok (.iaload, 1) := by decide +kernel
theorem dX12_cueOf_23 : decode cX12_cueOf 23 = .ok (.iload_n 2, 1) := by decide +kernel
theorem dX12_cueOf_24 : decode cX12_cueOf 24 = .ok (.if_icmp .ne 5, 3) := by decide +kernel
theorem dX12_cueOf_27 : decode cX12_cueOf 27 = .ok (.iload_n 3, 1) := by decide +kernel
theorem dX12_cueOf_28 : decode cX12_cueOf 28 = .ok (.ireturn, 1) := by decide +kernel
theorem dX12_cueOf_29 : decode cX12_cueOf 29 = .ok (.iinc 3 1, 3) := by decide +kernel
theorem dX12_cueOf_32 : decode cX12_cueOf 32 = .ok (.goto (-30), 3) := by decide +kernel
theorem dX12_cueOf_35 : decode cX12_cueOf 35 = .ok (.iconst (-1), 1) := by decide +kernel
theorem dX12_cueOf_36 : decode cX12_cueOf 36 = .ok (.ireturn, 1) := by decide +kernel
theorem dX12_fresh_0 : decode cX12_fresh 0 = .ok (.aload_n 0, 1) := by decide +kernel
theorem dX12_fresh_1 : decode cX12_fresh 1 = .ok (.getfield 109, 3) := by decide +kernel
theorem dX12_fresh_4 : decode cX12_fresh 4 = .ok (.iload_n 1, 1) := by decide +kernel
theorem dX12_fresh_5 : decode cX12_fresh 5 = .ok (.iconst (-1), 1) := by decide +kernel
theorem dX12_fresh_6 : decode cX12_fresh 6 = .ok (.iastore, 1) := by decide +kernel
theorem dX12_fresh_7 : decode cX12_fresh 7 = .ok (.aload_n 0, 1) := by decide +kernel
theorem dX12_fresh_8 : decode cX12_fresh 8 = .ok (.getfield 112, 3) := by decide +kernel
theorem dX12_fresh_11 : decode cX12_fresh 11 = .ok (.iload_n 1, 1) := by decide +kernel
theorem dX12_fresh_12 : decode cX12_fresh 12 = .ok (.iconst (-1), 1) := by decide +kernel
theorem dX12_fresh_13 : decode cX12_fresh 13 = .ok (.iastore, 1) := by decide +kernel
theorem dX12_fresh_14 : decode cX12_fresh 14 = .ok (.aload_n 0, 1) := by decide +kernel
theorem dX12_fresh_15 : decode cX12_fresh 15 = .ok (.getfield 115, 3) := by decide +kernel
theorem dX12_fresh_18 : decode cX12_fresh 18 = .ok (.iload_n 1, 1) := by decide +kernel
theorem dX12_fresh_19 : decode cX12_fresh 19 = .ok (.iconst (-1), 1) := by decide +kernel
theorem dX12_fresh_20 : decode cX12_fresh 20 = .ok (.iastore, 1) := by decide +kernel
theorem dX12_fresh_21 : decode cX12_fresh 21 = .ok (.aload_n 0, 1) := by decide +kernel
theorem dX12_fresh_22 : decode cX12_fresh 22 = .ok (.getfield 118, 3) := by decide +kernel
theorem dX12_fresh_25 : decode cX12_fresh 25 = .ok (.iload_n 1, 1) := by decide +kernel
theorem dX12_fresh_26 : decode cX12_fresh 26 = .ok (.sipush 255, 3) := by decide +kernel
theorem dX12_fresh_29 : decode cX12_fresh 29 = .ok (.iastore, 1) := by decide +kernel
theorem dX12_fresh_30 : decode cX12_fresh 30 = .ok (.iconst 0, 1) := by decide +kernel
theorem dX12_fresh_31 : decode cX12_fresh 31 = .ok (.istore_n 2, 1) := by decide +kernel
theorem dX12_fresh_32 : decode cX12_fresh 32 = .ok (.iload_n 2, 1) := by decide +kernel
theorem dX12_fresh_33 : decode cX12_fresh 33 = .ok (.bipush 65, 2) := by decide +kernel
theorem dX12_fresh_35 : decode cX12_fresh 35 = .ok (.if_icmp .ge 45, 3) := by decide +kernel
theorem dX12_fresh_38 : decode cX12_fresh 38 = .ok (.aload_n 0, 1) := by decide +kernel
theorem dX12_fresh_39 : decode cX12_fresh 39 = .ok (.getfield 121, 3) := by decide +kernel
theorem dX12_fresh_42 : decode cX12_fresh 42 = .ok (.bipush 65, 2) := by decide +kernel
theorem dX12_fresh_44 : decode cX12_fresh 44 = .ok (.iload_n 1, 1) := by decide +kernel
theorem dX12_fresh_45 : decode cX12_fresh 45 = .ok (.imul, 1) := by decide +kernel
theorem dX12_fresh_46 : decode cX12_fresh 46 = .ok (.iload_n 2, 1) := by decide +kernel
theorem dX12_fresh_47 : decode cX12_fresh 47 = .ok (.iadd, 1) := by decide +kernel
theorem dX12_fresh_48 : decode cX12_fresh 48 = .ok (.iconst 0, 1) := by decide +kernel
theorem dX12_fresh_49 : decode cX12_fresh 49 = .ok (.iastore, 1) := by decide +kernel
theorem dX12_fresh_50 : decode cX12_fresh 50 = .ok (.aload_n 0, 1) := by decide +kernel
theorem dX12_fresh_51 : decode cX12_fresh 51 = .ok (.getfield 124, 3) := by decide +kernel
theorem dX12_fresh_54 : decode cX12_fresh 54 = .ok (.bipush 65, 2) := by decide +kernel
theorem dX12_fresh_56 : decode cX12_fresh 56 = .ok (.iload_n 1, 1) := by decide +kernel
theorem dX12_fresh_57 : decode cX12_fresh 57 = .ok (.imul, 1) := by decide +kernel
theorem dX12_fresh_58 : decode cX12_fresh 58 = .ok (.iload_n 2, 1) := by decide +kernel
theorem dX12_fresh_59 : decode cX12_fresh 59 = .ok (.iadd, 1) := by decide +kernel
theorem dX12_fresh_60 : decode cX12_fresh 60 = .ok (.iconst 0, 1) := by decide +kernel
theorem dX12_fresh_61 : decode cX12_fresh 61 = .ok (.iastore, 1) := by decide +kernel
theorem dX12_fresh_62 : decode cX12_fresh 62 = .ok (.aload_n 0, 1) := by decide +kernel
theorem dX12_fresh_63 : decode cX12_fresh 63 = .ok (.getfield 133, 3) := by decide +kernel
theorem dX12_fresh_66 : decode cX12_fresh 66 = .ok (.bipush 65, 2) := by decide +kernel
theorem dX12_fresh_68 : decode cX12_fresh 68 = .ok (.iload_n 1, 1) := by decide +kernel
theorem dX12_fresh_69 : decode cX12_fresh 69 = .ok (.imul, 1) := by decide +kernel
theorem dX12_fresh_70 : decode cX12_fresh 70 = .ok (.iload_n 2, 1) := by decide +kernel
theorem dX12_fresh_71 : decode cX12_fresh 71 = .ok (.iadd, 1) := by decide +kernel
theorem dX12_fresh_72 : decode cX12_fresh 72 = .ok (.iconst 0, 1) := by decide +kernel
theorem dX12_fresh_73 : decode cX12_fresh 73 = .ok (.iastore, 1) := by decide +kernel
theorem dX12_fresh_74 : decode cX12_fresh 74 = .ok (.iinc 2 1, 3) := by decide +kernel
theorem dX12_fresh_77 : decode cX12_fresh 77 = .ok (.goto (-45), 3) := by decide +kernel
theorem dX12_fresh_80 : decode cX12_fresh 80 = .ok (.return_, 1) := by decide +kernel
theorem dX12_plays_0 : decode cX12_plays 0 = .ok (.aload_n 0, 1) := by decide +kernel
theorem dX12_plays_1 : decode cX12_plays 1 = .ok (.getfield 109, 3) := by decide +kernel
theorem dX12_plays_4 : decode cX12_plays 4 = .ok (.iload_n 1, 1) := by decide +kernel
theorem dX12_plays_5 : decode cX12_plays 5 = .ok (.iload_n 2, 1) := by decide +kernel
theorem dX12_plays_6 : decode cX12_plays 6 = .ok (.iastore, 1) := by decide +kernel
theorem dX12_plays_7 : decode cX12_plays 7 = .ok (.aload_n 0, 1) := by decide +kernel
theorem dX12_plays_8 : decode cX12_plays 8 = .ok (.getfield 115, 3) := by decide +kernel
theorem dX12_plays_11 : decode cX12_plays 11 = .ok (.iload_n 1, 1) := by decide +kernel
theorem dX12_plays_12 : decode cX12_plays 12 = .ok (.iconst (-1), 1) := by decide +kernel
theorem dX12_plays_13 : decode cX12_plays 13 = .ok (.iastore, 1) := by decide +kernel
theorem dX12_plays_14 : decode cX12_plays 14 = .ok (.aload_n 0, 1) := by decide +kernel
theorem dX12_plays_15 : decode cX12_plays 15 = .ok (.getfield 112, 3) := by decide +kernel
theorem dX12_plays_18 : decode cX12_plays 18 = .ok (.iload_n 1, 1) := by decide +kernel
theorem dX12_plays_19 : decode cX12_plays 19 = .ok (.iconst (-1), 1) := by decide +kernel
theorem dX12_plays_20 : decode cX12_plays 20 = .ok (.iastore, 1) := by decide +kernel
theorem dX12_plays_21 : decode cX12_plays 21 = .ok (.aload_n 0, 1) := by decide +kernel
theorem dX12_plays_22 : decode cX12_plays 22 = .ok (.getfield 36, 3) := by decide +kernel
theorem dX12_plays_25 : decode cX12_plays 25 = .ok (.iload_n 1, 1) := by decide +kernel
theorem dX12_plays_26 : decode cX12_plays 26 = .ok (.bipush 60, 2) := by decide +kernel
theorem dX12_plays_28 : decode cX12_plays 28 = .ok (.imul, 1) := by decide +kernel
theorem dX12_plays_29 : decode cX12_plays 29 = .ok (.iload_n 2, 1) := by decide +kernel
theorem dX12_plays_30 : decode cX12_plays 30 = .ok (.iadd, 1) := by decide +kernel
theorem dX12_plays_31 : decode cX12_plays 31 = .ok (.iaload, 1) := by decide +kernel
theorem dX12_plays_32 : decode cX12_plays 32 = .ok (.istore 4, 2) := by decide +kernel
theorem dX12_plays_34 : decode cX12_plays 34 = .ok (.iload 4, 2) := by decide +kernel
theorem dX12_plays_36 : decode cX12_plays 36 = .ok (.iload_n 3, 1) := by decide +kernel
theorem dX12_plays_37 : decode cX12_plays 37 = .ok (.if_icmp .ge 7, 3) := by decide +kernel
theorem dX12_plays_40 : decode cX12_plays 40 = .ok (.iload_n 3, 1) := by decide +kernel
theorem dX12_plays_41 : decode cX12_plays 41 = .ok (.goto 5, 3) := by decide +kernel
theorem dX12_plays_44 : decode cX12_plays 44 = .ok (.iload 4, 2) := by decide +kernel
theorem dX12_plays_46 : decode cX12_plays 46 = .ok (.istore 4, 2) := by decide +kernel
theorem dX12_plays_48 : decode cX12_plays 48 = .ok (.iload 4, 2) := by decide +kernel
theorem dX12_plays_50 : decode cX12_plays 50 = .ok (.ifCond .ne 11, 3) := by decide +kernel
theorem dX12_plays_53 : decode cX12_plays 53 = .ok (.aload_n 0, 1) := by decide +kernel
theorem dX12_plays_54 : decode cX12_plays 54 = .ok (.iload_n 1, 1) := by decide +kernel
theorem dX12_plays_55 : decode cX12_plays 55 = .ok (.invokevirtual 487, 3) := by decide +kernel
theorem dX12_plays_58 : decode cX12_plays 58 = .ok (.goto 16, 3) := by decide +kernel
theorem dX12_plays_61 : decode cX12_plays 61 = .ok (.aload_n 0, 1) := by decide +kernel
theorem dX12_plays_62 : decode cX12_plays 62 = .ok (.getfield 112, 3) := by decide +kernel
theorem dX12_plays_65 : decode cX12_plays 65 = .ok (.iload_n 1, 1) := by decide +kernel
theorem dX12_plays_66 : decode cX12_plays 66 = .ok (.aload_n 0, 1) := by decide +kernel
theorem dX12_plays_67 : decode cX12_plays 67 = .ok (.getfield 490, 3) := by decide +kernel
theorem dX12_plays_70 : decode cX12_plays 70 = .ok (.iload 4, 2) := by decide +kernel
theorem dX12_plays_72 : decode cX12_plays 72 = .ok (.iadd, 1) := by decide +kernel
theorem dX12_plays_73 : decode cX12_plays 73 = .ok (.iastore, 1) := by decide +kernel
theorem dX12_plays_74 : decode cX12_plays 74 = .ok (.return_, 1) := by decide +kernel
theorem dX12_begins_0 : decode cX12_begins 0 = .ok (.iload_n 1, 1) := by decide +kernel
theorem dX12_begins_1 : decode cX12_begins 1 = .ok (.bipush 60, 2) := by decide +kernel
theorem dX12_begins_3 : decode cX12_begins 3 = .ok (.imul, 1) := by decide +kernel
theorem dX12_begins_4 : decode cX12_begins 4 = .ok (.aload_n 0, 1) := by decide +kernel
theorem dX12_begins_5 : decode cX12_begins 5 = .ok (.getfield 109, 3) := by decide +kernel
theorem dX12_begins_8 : decode cX12_begins 8 = .ok (.iload_n 1, 1) := by decide +kernel
theorem dX12_begins_9 : decode cX12_begins 9 = .ok (.iaload, 1) := by decide +kernel
theorem dX12_begins_10 : decode cX12_begins 10 = .ok (.iadd, 1) := by decide +kernel
theorem dX12_begins_11 : decode cX12_begins 11 = .ok (.istore_n 2, 1) := by decide +kernel
theorem dX12_begins_12 : decode cX12_begins 12 = .ok (.aload_n 0, 1) := by decide +kernel
theorem dX12_begins_13 : decode cX12_begins 13 = .ok (.getfield 112, 3) := by decide +kernel
theorem dX12_begins_16 : decode cX12_begins 16 = .ok (.iload_n 1, 1) := by decide +kernel
theorem dX12_begins_17 : decode cX12_begins 17 = .ok (.iconst (-1), 1) := by decide +kernel
theorem dX12_begins_18 : decode cX12_begins 18 = .ok (.iastore, 1) := by decide +kernel
theorem dX12_begins_19 : decode cX12_begins 19 = .ok (.iconst 1, 1) := by decide +kernel
theorem dX12_begins_20 : decode cX12_begins 20 = .ok (.istore_n 3, 1) := by decide +kernel
theorem dX12_begins_21 : decode cX12_begins 21 = .ok (.iload_n 3, 1) := by decide +kernel
theorem dX12_begins_22 : decode cX12_begins 22 = .ok (.bipush 64, 2) := by decide +kernel
theorem dX12_begins_24 : decode cX12_begins 24 = .ok (.if_icmp .gt 142, 3) := by decide +kernel
theorem dX12_begins_27 : decode cX12_begins 27 = .ok (.bipush 65, 2) := by decide +kernel
theorem dX12_begins_29 : decode cX12_begins 29 = .ok (.iload_n 1, 1) := by decide +kernel
theorem dX12_begins_30 : decode cX12_begins 30 = .ok (.imul, 1) := by decide +kernel
theorem dX12_begins_31 : decode cX12_begins 31 = .ok (.iload_n 3, 1) := by decide +kernel
theorem dX12_begins_32 : decode cX12_begins 32 = .ok (.iadd, 1) := by decide +kernel
theorem dX12_begins_33 : decode cX12_begins 33 = .ok (.istore 4, 2) := by decide +kernel
theorem dX12_begins_35 : decode cX12_begins 35 = .ok (.aload_n 0, 1) := by decide +kernel
theorem dX12_begins_36 : decode cX12_begins 36 = .ok (.getfield 51, 3) := by decide +kernel
theorem dX12_begins_39 : decode cX12_begins 39 = .ok (.bipush 65, 2) := by decide +kernel
theorem dX12_begins_41 : decode cX12_begins 41 = .ok (.iload_n 2, 1) := by decide +kernel
theorem dX12_begins_42 : decode cX12_begins 42 = .ok (.imul, 1) := by decide +kernel
theorem dX12_begins_43 : decode cX12_begins 43 = .ok (.iload_n 3, 1) := by decide +kernel
theorem dX12_begins_44 : decode cX12_begins 44 = .ok (.iadd, 1) := by decide +kernel
theorem dX12_begins_45 : decode cX12_begins 45 = .ok (.iaload, 1) := by decide +kernel
theorem dX12_begins_46 : decode cX12_begins 46 = .ok (.istore 5, 2) := by decide +kernel
theorem dX12_begins_48 : decode cX12_begins 48 = .ok (.aload_n 0, 1) := by decide +kernel
theorem dX12_begins_49 : decode cX12_begins 49 = .ok (.getfield 124, 3) := by decide +kernel
theorem dX12_begins_52 : decode cX12_begins 52 = .ok (.iload 4, 2) := by decide +kernel
theorem dX12_begins_54 : decode cX12_begins 54 = .ok (.iaload, 1) := by decide +kernel
theorem dX12_begins_55 : decode cX12_begins 55 = .ok (.iload 5, 2) := by decide +kernel
theorem dX12_begins_57 : decode cX12_begins 57 = .ok (.if_icmp .eq 103, 3) := by decide +kernel
theorem dX12_begins_60 : decode cX12_begins 60 = .ok (.aload_n 0, 1) := by decide +kernel
theorem dX12_begins_61 : decode cX12_begins 61 = .ok (.getfield 124, 3) := by decide +kernel
theorem dX12_begins_64 : decode cX12_begins 64 = .ok (.iload 4, 2) := by decide +kernel
theorem dX12_begins_66 : decode cX12_begins 66 = .ok (.iload 5, 2) := by decide +kernel
theorem dX12_begins_68 : decode cX12_begins 68 = .ok (.iastore, 1) := by decide +kernel
theorem dX12_begins_69 : decode cX12_begins 69 = .ok (.aload_n 0, 1) := by decide +kernel
theorem dX12_begins_70 : decode cX12_begins 70 = .ok (.getfield 127, 3) := by decide +kernel
theorem dX12_begins_73 : decode cX12_begins 73 = .ok (.iload 4, 2) := by decide +kernel
theorem dX12_begins_75 : decode cX12_begins 75 = .ok (.aload_n 0, 1) := by decide +kernel
theorem dX12_begins_76 : decode cX12_begins 76 = .ok (.getfield 121, 3) := by decide +kernel
theorem dX12_begins_79 : decode cX12_begins 79 = .ok (.iload 4, 2) := by decide +kernel
theorem dX12_begins_81 : decode cX12_begins 81 = .ok (.iaload, 1) := by decide +kernel
theorem dX12_begins_82 : decode cX12_begins 82 = .ok (.iastore, 1) := by decide +kernel
theorem dX12_begins_83 : decode cX12_begins 83 = .ok (.aload_n 0, 1) := by decide +kernel
theorem dX12_begins_84 : decode cX12_begins 84 = .ok (.getfield 130, 3) := by decide +kernel
theorem dX12_begins_87 : decode cX12_begins 87 = .ok (.iload 4, 2) := by decide +kernel
theorem dX12_begins_89 : decode cX12_begins 89 = .ok (.aload_n 0, 1) := by decide +kernel
theorem dX12_begins_90 : decode cX12_begins 90 = .ok (.getfield 490, 3) := by decide +kernel
theorem dX12_begins_93 : decode cX12_begins 93 = .ok (.iastore, 1) := by decide +kernel
theorem dX12_begins_94 : decode cX12_begins 94 = .ok (.aload_n 0, 1) := by decide +kernel
theorem dX12_begins_95 : decode cX12_begins 95 = .ok (.getfield 133, 3) := by decide +kernel
theorem dX12_begins_98 : decode cX12_begins 98 = .ok (.iload 4, 2) := by decide +kernel
theorem dX12_begins_100 : decode cX12_begins 100 = .ok (.iload 5, 2) := by decide +kernel
theorem dX12_begins_102 : decode cX12_begins 102 = .ok (.aload_n 0, 1) := by decide +kernel
theorem dX12_begins_103 : decode cX12_begins 103 = .ok (.getfield 121, 3) := by decide +kernel
theorem dX12_begins_106 : decode cX12_begins 106 = .ok (.iload 4, 2) := by decide +kernel
theorem dX12_begins_108 : decode cX12_begins 108 = .ok (.iaload, 1) := by decide +kernel
theorem dX12_begins_109 : decode cX12_begins 109 = .ok (.if_icmp .le 12, 3) := by decide +kernel
theorem dX12_begins_112 : decode cX12_begins 112 = .ok (.aload_n 0, 1) := by decide +kernel
theorem dX12_begins_113 : decode cX12_begins 113 = .ok (.getfield 30, 3) := by decide +kernel
theorem dX12_begins_116 : decode cX12_begins 116 = .ok (.iload_n 2, 1) := by decide +kernel
theorem dX12_begins_117 : decode cX12_begins 117 = .ok (.iaload, 1) := by decide +kernel
theorem dX12_begins_118 : decode cX12_begins 118 = .ok (.goto 9, 3) := by decide +kernel
theorem dX12_begins_121 : decode cX12_begins 121 = .ok (.aload_n 0, 1) := by decide +kernel
theorem dX12_begins_122 : decode cX12_begins 122 = .ok (.getfield 33, 3) := by decide +kernel
theorem dX12_begins_125 : decode cX12_begins 125 = .ok (.iload_n 2, 1) := by decide +kernel
theorem dX12_begins_126 : decode cX12_begins 126 = .ok (.iaload, 1) := by decide +kernel
theorem dX12_begins_127 : decode cX12_begins 127 = .ok (.iastore, 1) := by decide +kernel
theorem dX12_begins_128 : decode cX12_begins 128 = .ok (.aload_n 0, 1) := by decide +kernel
theorem dX12_begins_129 : decode cX12_begins 129 = .ok (.getfield 133, 3) := by decide +kernel
theorem dX12_begins_132 : decode cX12_begins 132 = .ok (.iload 4, 2) := by decide +kernel
theorem dX12_begins_134 : decode cX12_begins 134 = .ok (.iaload, 1) := by decide +kernel
theorem dX12_begins_135 : decode cX12_begins 135 = .ok (.ifCond .ne 12, 3) := by decide +kernel
theorem dX12_begins_138 : decode cX12_begins 138 = .ok (.aload_n 0, 1) := by decide +kernel
theorem dX12_begins_139 : decode cX12_begins 139 = .ok (.getfield 121, 3) := by decide +kernel
theorem dX12_begins_142 : decode cX12_begins 142 = .ok (.iload 4, 2) := by decide +kernel
theorem dX12_begins_144 : decode cX12_begins 144 = .ok (.iload 5, 2) := by decide +kernel
theorem dX12_begins_146 : decode cX12_begins 146 = .ok (.iastore, 1) := by decide +kernel
theorem dX12_begins_147 : decode cX12_begins 147 = .ok (.iload_n 3, 1) := by decide +kernel
theorem dX12_begins_148 : decode cX12_begins 148 = .ok (.bipush 49, 2) := by decide +kernel
theorem dX12_begins_150 : decode cX12_begins 150 = .ok (.if_icmp .lt 10, 3) := by decide +kernel
theorem dX12_begins_153 : decode cX12_begins 153 = .ok (.aload_n 0, 1) := by decide +kernel
theorem dX12_begins_154 : decode cX12_begins 154 = .ok (.getfield 136, 3) := by decide +kernel
theorem dX12_begins_157 : decode cX12_begins 157 = .ok (.iload_n 3, 1) := by decide +kernel
theorem dX12_begins_158 : decode cX12_begins 158 = .ok (.iload_n 1, 1) := by decide +kernel
theorem dX12_begins_159 : decode cX12_begins 159 = .ok (.iastore, 1) := by decide +kernel
theorem dX12_begins_160 : decode cX12_begins 160 = .ok (.iinc 3 1, 3) := by decide +kernel
theorem dX12_begins_163 : decode cX12_begins 163 = .ok (.goto (-142), 3) := by decide +kernel
theorem dX12_begins_166 : decode cX12_begins 166 = .ok (.aload_n 0, 1) := by decide +kernel
theorem dX12_begins_167 : decode cX12_begins 167 = .ok (.getfield 39, 3) := by decide +kernel
theorem dX12_begins_170 : decode cX12_begins 170 = .ok (.iload_n 2, 1) := by decide +kernel
theorem dX12_begins_171 : decode cX12_begins 171 = .ok (.iaload, 1) := by decide +kernel
theorem dX12_begins_172 : decode cX12_begins 172 = .ok (.ifCond .le 20, 3) := by decide +kernel
theorem dX12_begins_175 : decode cX12_begins 175 = .ok (.aload_n 0, 1) := by decide +kernel
theorem dX12_begins_176 : decode cX12_begins 176 = .ok (.getfield 115, 3) := by decide +kernel
theorem dX12_begins_179 : decode cX12_begins 179 = .ok (.iload_n 1, 1) := by decide +kernel
theorem dX12_begins_180 : decode cX12_begins 180 = .ok (.aload_n 0, 1) := by decide +kernel
theorem dX12_begins_181 : decode cX12_begins 181 = .ok (.getfield 490, 3) := by decide +kernel
theorem dX12_begins_184 : decode cX12_begins 184 = .ok (.aload_n 0, 1) := by decide +kernel
theorem dX12_begins_185 : decode cX12_begins 185 = .ok (.getfield 39, 3) := by decide +kernel
theorem dX12_begins_188 : decode cX12_begins 188 = .ok (.iload_n 2, 1) := by decide +kernel
theorem dX12_begins_189 : decode cX12_begins 189 = .ok (.iaload, 1) := by decide +kernel
theorem dX12_begins_190 : decode cX12_begins 190 = .ok (.iadd, 1) := by decide +kernel
theorem dX12_begins_191 : decode cX12_begins 191 = .ok (.iastore, 1) := by decide +kernel
theorem dX12_begins_192 : decode cX12_begins 192 = .ok (.aload_n 0, 1) := by decide +kernel
theorem dX12_begins_193 : decode cX12_begins 193 = .ok (.getfield 109, 3) := by decide +kernel
theorem dX12_begins_196 : decode cX12_begins 196 = .ok (.iload_n 1, 1) := by decide +kernel
theorem dX12_begins_197 : decode cX12_begins 197 = .ok (.iaload, 1) := by decide +kernel
theorem dX12_begins_198 : decode cX12_begins 198 = .ok (.istore_n 3, 1) := by decide +kernel
theorem dX12_begins_199 : decode cX12_begins 199 = .ok (.iconst 0, 1) := by decide +kernel
theorem dX12_begins_200 : decode cX12_begins 200 = .ok (.istore 4, 2) := by decide +kernel
theorem dX12_begins_202 : decode cX12_begins 202 = .ok (.iload 4, 2) := by decide +kernel
theorem dX12_begins_204 : decode cX12_begins 204 = .ok (.aload_n 0, 1) := by decide +kernel
theorem dX12_begins_205 : decode cX12_begins 205 = .ok (.getfield 45, 3) := by decide +kernel
theorem dX12_begins_208 : decode cX12_begins 208 = .ok (.iload_n 2, 1) := by decide +kernel
theorem dX12_begins_209 : decode cX12_begins 209 = .ok (.iaload, 1) := by decide +kernel
theorem dX12_begins_210 : decode cX12_begins 210 = .ok (.if_icmp .ge 177, 3) := by decide +kernel
theorem dX12_begins_213 : decode cX12_begins 213 = .ok (.iload_n 1, 1) := by decide +kernel
theorem dX12_begins_214 : decode cX12_begins 214 = .ok (.sipush 300, 3) := by decide +kernel
theorem dX12_begins_217 : decode cX12_begins 217 = .ok (.imul, 1) := by decide +kernel
theorem dX12_begins_218 : decode cX12_begins 218 = .ok (.aload_n 0, 1) := by decide +kernel
theorem dX12_begins_219 : decode cX12_begins 219 = .ok (.getfield 48, 3) := by decide +kernel
theorem dX12_begins_222 : decode cX12_begins 222 = .ok (.iload_n 2, 1) := by decide +kernel
theorem dX12_begins_223 : decode cX12_begins 223 = .ok (.iaload, 1) := by decide +kernel
theorem dX12_begins_224 : decode cX12_begins 224 = .ok (.iadd, 1) := by decide +kernel
theorem dX12_begins_225 : decode cX12_begins 225 = .ok (.iload 4, 2) := by decide +kernel
theorem dX12_begins_227 : decode cX12_begins 227 = .ok (.iadd, 1) := by decide +kernel
theorem dX12_begins_228 : decode cX12_begins 228 = .ok (.istore 5, 2) := by decide +kernel
theorem dX12_begins_230 : decode cX12_begins 230 = .ok (.aload_n 0, 1) := by decide +kernel
theorem dX12_begins_231 : decode cX12_begins 231 = .ok (.getfield 57, 3) := by decide +kernel
theorem dX12_begins_234 : decode cX12_begins 234 = .ok (.iload 5, 2) := by decide +kernel
theorem dX12_begins_236 : decode cX12_begins 236 = .ok (.iaload, 1) := by decide +kernel
theorem dX12_begins_237 : decode cX12_begins 237 = .ok (.istore 6, 2) := by decide +kernel
theorem dX12_begins_239 : decode cX12_begins 239 = .ok (.aload_n 0, 1) := by decide +kernel
theorem dX12_begins_240 : decode cX12_begins 240 = .ok (.getfield 54, 3) := by decide +kernel
theorem dX12_begins_243 : decode cX12_begins 243 = .ok (.iload 5, 2) := by decide +kernel
theorem dX12_begins_245 : decode cX12_begins 245 = .ok (.iaload, 1) := by decide +kernel
theorem dX12_begins_246 : decode cX12_begins 246 = .ok (.iconst 1, 1) := by decide +kernel
theorem dX12_begins_247 : decode cX12_begins 247 = .ok (.if_icmp .ne 21, 3) := by decide +kernel
theorem dX12_begins_250 : decode cX12_begins 250 = .ok (.aload_n 0, 1) := by decide +kernel
theorem dX12_begins_251 : decode cX12_begins 251 = .ok (.iload 6, 2) := by decide +kernel
theorem dX12_begins_253 : decode cX12_begins 253 = .ok (.aload_n 0, 1) := by decide +kernel
theorem dX12_begins_254 : decode cX12_begins 254 = .ok (.getfield 60, 3) := by decide +kernel
theorem dX12_begins_257 : decode cX12_begins 257 = .ok (.iload 5, 2) := by decide +kernel
theorem dX12_begins_259 : decode cX12_begins 259 = .ok (.iaload, 1) := by decide +kernel
theorem dX12_begins_260 : decode cX12_begins 260 = .ok (.invokevirtual 493, 3) := by decide +kernel
theorem dX12_begins_263 : decode cX12_begins 263 = .ok (.istore 7, 2) := by decide +kernel
theorem dX12_begins_265 : decode cX12_begins 265 = .ok (.goto 116, 3) := by decide +kernel
theorem dX12_begins_268 : decode cX12_begins 268 = .ok (.aload_n 0, 1) := by decide +kernel
theorem dX12_begins_269 : decode cX12_begins 269 = .ok (.getfield 54, 3) := by decide +kernel
theorem dX12_begins_272 : decode cX12_begins 272 = .ok (.iload 5, 2) := by decide +kernel
theorem dX12_begins_274 : decode cX12_begins 274 = .ok (.iaload, 1) := by decide +kernel
theorem dX12_begins_275 : decode cX12_begins 275 = .ok (.iconst 2, 1) := by decide +kernel
theorem dX12_begins_276 : decode cX12_begins 276 = .ok (.if_icmp .ne 14, 3) := by decide +kernel
theorem dX12_begins_279 : decode cX12_begins 279 = .ok (.aload_n 0, 1) := by decide +kernel
theorem dX12_begins_280 : decode cX12_begins 280 = .ok (.getfield 166, 3) := by decide +kernel
theorem dX12_begins_283 : decode cX12_begins 283 = .ok (.iload 6, 2) := by decide +kernel
theorem dX12_begins_285 : decode cX12_begins 285 = .ok (.iconst (-1), 1) := by decide +kernel
theorem dX12_begins_286 : decode cX12_begins 286 = .ok (.iastore, 1) := by decide +kernel
theorem dX12_begins_287 : decode cX12_begins 287 = .ok (.goto 94, 3) := by decide +kernel
theorem dX12_begins_290 : decode cX12_begins 290 = .ok (.aload_n 0, 1) := by decide +kernel
theorem dX12_begins_291 : decode cX12_begins 291 = .ok (.getfield 54, 3) := by decide +kernel
theorem dX12_begins_294 : decode cX12_begins 294 = .ok (.iload 5, 2) := by decide +kernel
theorem dX12_begins_296 : decode cX12_begins 296 = .ok (.iaload, 1) := by decide +kernel
theorem dX12_begins_297 : decode cX12_begins 297 = .ok (.iconst 3, 1) := by decide +kernel
theorem dX12_begins_298 : decode cX12_begins 298 = .ok (.if_icmp .ne 14, 3) := by decide +kernel
theorem dX12_begins_301 : decode cX12_begins 301 = .ok (.aload_n 0, 1) := by decide +kernel
theorem dX12_begins_302 : decode cX12_begins 302 = .ok (.getfield 181, 3) := by decide +kernel
theorem dX12_begins_305 : decode cX12_begins 305 = .ok (.iload 6, 2) := by decide +kernel
theorem dX12_begins_307 : decode cX12_begins 307 = .ok (.iconst 1, 1) := by decide +kernel
theorem dX12_begins_308 : decode cX12_begins 308 = .ok (.bastore, 1) := by decide +kernel
theorem dX12_begins_309 : decode cX12_begins 309 = .ok (.goto 72, 3) := by decide +kernel
theorem dX12_begins_312 : decode cX12_begins 312 = .ok (.aload_n 0, 1) := by decide +kernel
theorem dX12_begins_313 : decode cX12_begins 313 = .ok (.getfield 54, 3) := by decide +kernel
theorem dX12_begins_316 : decode cX12_begins 316 = .ok (.iload 5, 2) := by decide +kernel
theorem dX12_begins_318 : decode cX12_begins 318 = .ok (.iaload, 1) := by decide +kernel
theorem dX12_begins_319 : decode cX12_begins 319 = .ok (.iconst 4, 1) := by decide +kernel
theorem dX12_begins_320 : decode cX12_begins 320 = .ok (.if_icmp .ne 36, 3) := by decide +kernel
theorem dX12_begins_323 : decode cX12_begins 323 = .ok (.aload_n 0, 1) := by decide +kernel
theorem dX12_begins_324 : decode cX12_begins 324 = .ok (.iload 6, 2) := by decide +kernel
theorem dX12_begins_326 : decode cX12_begins 326 = .ok (.aload_n 0, 1) := by decide +kernel
theorem dX12_begins_327 : decode cX12_begins 327 = .ok (.getfield 60, 3) := by decide +kernel
theorem dX12_begins_330 : decode cX12_begins 330 = .ok (.iload 5, 2) := by decide +kernel
theorem dX12_begins_332 : decode cX12_begins 332 = .ok (.iaload, 1) := by decide +kernel
theorem dX12_begins_333 : decode cX12_begins 333 = .ok (.invokevirtual 497, 3) := by decide +kernel
theorem dX12_begins_336 : decode cX12_begins 336 = .ok (.istore 7, 2) := by decide +kernel
theorem dX12_begins_338 : decode cX12_begins 338 = .ok (.iload 7, 2) := by decide +kernel
theorem dX12_begins_340 : decode cX12_begins 340 = .ok (.iconst (-1), 1) := by decide +kernel
theorem dX12_begins_341 : decode cX12_begins 341 = .ok (.if_icmp .eq 12, 3) := by decide +kernel
theorem dX12_begins_344 : decode cX12_begins 344 = .ok (.aload_n 0, 1) := by decide +kernel
theorem dX12_begins_345 : decode cX12_begins 345 = .ok (.iload 6, 2) := by decide +kernel
theorem dX12_begins_347 : decode cX12_begins 347 = .ok (.iload 7, 2) := by decide +kernel
theorem dX12_begins_349 : decode cX12_begins 349 = .ok (.iconst 1, 1) := by decide +kernel
theorem dX12_begins_350 : decode cX12_begins 350 = .ok (.invokevirtual 500, 3) := by decide +kernel
theorem dX12_begins_353 : decode cX12_begins 353 = .ok (.goto 28, 3) := by decide +kernel
theorem dX12_begins_356 : decode cX12_begins 356 = .ok (.aload_n 0, 1) := by decide +kernel
theorem dX12_begins_357 : decode cX12_begins 357 = .ok (.getfield 54, 3) := by decide +kernel
theorem dX12_begins_360 : decode cX12_begins 360 = .ok (.iload 5, 2) := by decide +kernel
theorem dX12_begins_362 : decode cX12_begins 362 = .ok (.iaload, 1) := by decide +kernel
theorem dX12_begins_363 : decode cX12_begins 363 = .ok (.iconst 5, 1) := by decide +kernel
theorem dX12_begins_364 : decode cX12_begins 364 = .ok (.if_icmp .ne 17, 3) := by decide +kernel
theorem dX12_begins_367 : decode cX12_begins 367 = .ok (.aload_n 0, 1) := by decide +kernel
theorem dX12_begins_368 : decode cX12_begins 368 = .ok (.getfield 118, 3) := by decide +kernel
theorem dX12_begins_371 : decode cX12_begins 371 = .ok (.iload 6, 2) := by decide +kernel
theorem dX12_begins_373 : decode cX12_begins 373 = .ok (.aload_n 0, 1) := by decide +kernel
theorem dX12_begins_374 : decode cX12_begins 374 = .ok (.getfield 60, 3) := by decide +kernel
theorem dX12_begins_377 : decode cX12_begins 377 = .ok (.iload 5, 2) := by decide +kernel
theorem dX12_begins_379 : decode cX12_begins 379 = .ok (.iaload, 1) := by decide +kernel
theorem dX12_begins_380 : decode cX12_begins 380 = .ok (.iastore, 1) := by decide +kernel
theorem dX12_begins_381 : decode cX12_begins 381 = .ok (.iinc 4 1, 3) := by decide +kernel
theorem dX12_begins_384 : decode cX12_begins 384 = .ok (.goto (-182), 3) := by decide +kernel
theorem dX12_begins_387 : decode cX12_begins 387 = .ok (.return_, 1) := by decide +kernel
theorem dX12_goes_0 : decode cX12_goes 0 = .ok (.aload_n 0, 1) := by decide +kernel
theorem dX12_goes_1 : decode cX12_goes 1 = .ok (.getfield 109, 3) := by decide +kernel
theorem dX12_goes_4 : decode cX12_goes 4 = .ok (.iload_n 1, 1) := by decide +kernel
theorem dX12_goes_5 : decode cX12_goes 5 = .ok (.iaload, 1) := by decide +kernel
theorem dX12_goes_6 : decode cX12_goes 6 = .ok (.istore_n 2, 1) := by decide +kernel
theorem dX12_goes_7 : decode cX12_goes 7 = .ok (.iload_n 2, 1) := by decide +kernel
theorem dX12_goes_8 : decode cX12_goes 8 = .ok (.iconst (-1), 1) := by decide +kernel
theorem dX12_goes_9 : decode cX12_goes 9 = .ok (.if_icmp .ne 7, 3) := by decide +kernel
theorem dX12_goes_12 : decode cX12_goes 12 = .ok (.iconst 0, 1) := by decide +kernel
theorem dX12_goes_13 : decode cX12_goes 13 = .ok (.goto 6, 3) := by decide +kernel
theorem dX12_goes_16 : decode cX12_goes 16 = .ok (.iload_n 2, 1) := by decide +kernel
theorem dX12_goes_17 : decode cX12_goes 17 = .ok (.iconst 1, 1) := by decide +kernel
theorem dX12_goes_18 : decode cX12_goes 18 = .ok (.iadd, 1) := by decide +kernel
theorem dX12_goes_19 : decode cX12_goes 19 = .ok (.istore_n 3, 1) := by decide +kernel
theorem dX12_goes_20 : decode cX12_goes 20 = .ok (.iload_n 2, 1) := by decide +kernel
theorem dX12_goes_21 : decode cX12_goes 21 = .ok (.iconst (-1), 1) := by decide +kernel
theorem dX12_goes_22 : decode cX12_goes 22 = .ok (.if_icmp .eq 48, 3) := by decide +kernel
theorem dX12_goes_25 : decode cX12_goes 25 = .ok (.aload_n 0, 1) := by decide +kernel
theorem dX12_goes_26 : decode cX12_goes 26 = .ok (.getfield 42, 3) := by decide +kernel
theorem dX12_goes_29 : decode cX12_goes 29 = .ok (.iload_n 1, 1) := by decide +kernel
theorem dX12_goes_30 : decode cX12_goes 30 = .ok (.bipush 60, 2) := by decide +kernel
theorem dX12_goes_32 : decode cX12_goes 32 = .ok (.imul, 1) := by decide +kernel
theorem dX12_goes_33 : decode cX12_goes 33 = .ok (.iload_n 2, 1) := by decide +kernel
theorem dX12_goes_34 : decode cX12_goes 34 = .ok (.iadd, 1) := by decide +kernel
theorem dX12_goes_35 : decode cX12_goes 35 = .ok (.iaload, 1) := by decide +kernel
theorem dX12_goes_36 : decode cX12_goes 36 = .ok (.ifCond .eq 34, 3) := by decide +kernel
theorem dX12_goes_39 : decode cX12_goes 39 = .ok (.aload_n 0, 1) := by decide +kernel
theorem dX12_goes_40 : decode cX12_goes 40 = .ok (.iload_n 1, 1) := by decide +kernel
theorem dX12_goes_41 : decode cX12_goes 41 = .ok (.aload_n 0, 1) := by decide +kernel
theorem dX12_goes_42 : decode cX12_goes 42 = .ok (.getfield 42, 3) := by decide +kernel
theorem dX12_goes_45 : decode cX12_goes 45 = .ok (.iload_n 1, 1) := by decide +kernel
theorem dX12_goes_46 : decode cX12_goes 46 = .ok (.bipush 60, 2) := by decide +kernel
theorem dX12_goes_48 : decode cX12_goes 48 = .ok (.imul, 1) := by decide +kernel
theorem dX12_goes_49 : decode cX12_goes 49 = .ok (.iload_n 2, 1) := by decide +kernel
theorem dX12_goes_50 : decode cX12_goes 50 = .ok (.iadd, 1) := by decide +kernel
theorem dX12_goes_51 : decode cX12_goes 51 = .ok (.iaload, 1) := by decide +kernel
theorem dX12_goes_52 : decode cX12_goes 52 = .ok (.invokevirtual 497, 3) := by decide +kernel
theorem dX12_goes_55 : decode cX12_goes 55 = .ok (.istore 4, 2) := by decide +kernel
theorem dX12_goes_57 : decode cX12_goes 57 = .ok (.iload 4, 2) := by decide +kernel
theorem dX12_goes_59 : decode cX12_goes 59 = .ok (.iconst (-1), 1) := by decide +kernel
theorem dX12_goes_60 : decode cX12_goes 60 = .ok (.if_icmp .ne 7, 3) := by decide +kernel
theorem dX12_goes_63 : decode cX12_goes 63 = .ok (.iload_n 3, 1) := by decide +kernel
theorem dX12_goes_64 : decode cX12_goes 64 = .ok (.goto 5, 3) := by decide +kernel
theorem dX12_goes_67 : decode cX12_goes 67 = .ok (.iload 4, 2) := by decide +kernel
theorem dX12_goes_69 : decode cX12_goes 69 = .ok (.istore_n 3, 1) := by decide +kernel
theorem dX12_goes_70 : decode cX12_goes 70 = .ok (.iload_n 3, 1) := by decide +kernel
theorem dX12_goes_71 : decode cX12_goes 71 = .ok (.aload_n 0, 1) := by decide +kernel
theorem dX12_goes_72 : decode cX12_goes 72 = .ok (.getfield 24, 3) := by decide +kernel
theorem dX12_goes_75 : decode cX12_goes 75 = .ok (.iload_n 1, 1) := by decide +kernel
theorem dX12_goes_76 : decode cX12_goes 76 = .ok (.iaload, 1) := by decide +kernel
theorem dX12_goes_77 : decode cX12_goes 77 = .ok (.if_icmp .lt 34, 3) := by decide +kernel
theorem dX12_goes_80 : decode cX12_goes 80 = .ok (.aload_n 0, 1) := by decide +kernel
theorem dX12_goes_81 : decode cX12_goes 81 = .ok (.getfield 115, 3) := by decide +kernel
theorem dX12_goes_84 : decode cX12_goes 84 = .ok (.iload_n 1, 1) := by decide +kernel
theorem dX12_goes_85 : decode cX12_goes 85 = .ok (.aload_n 0, 1) := by decide +kernel
theorem dX12_goes_86 : decode cX12_goes 86 = .ok (.getfield 115, 3) := by decide +kernel
theorem dX12_goes_89 : decode cX12_goes 89 = .ok (.iload_n 1, 1) := by decide +kernel
theorem dX12_goes_90 : decode cX12_goes 90 = .ok (.iaload, 1) := by decide +kernel
theorem dX12_goes_91 : decode cX12_goes 91 = .ok (.aload_n 0, 1) := by decide +kernel
theorem dX12_goes_92 : decode cX12_goes 92 = .ok (.getfield 490, 3) := by decide +kernel
theorem dX12_goes_95 : decode cX12_goes 95 = .ok (.if_icmp .ne 7, 3) := by decide +kernel
theorem dX12_goes_98 : decode cX12_goes 98 = .ok (.iconst (-1), 1) := by decide +kernel
theorem dX12_goes_99 : decode cX12_goes 99 = .ok (.goto 9, 3) := by decide +kernel
theorem dX12_goes_102 : decode cX12_goes 102 = .ok (.aload_n 0, 1) := by decide +kernel
theorem dX12_goes_103 : decode cX12_goes 103 = .ok (.getfield 115, 3) := by decide +kernel
theorem dX12_goes_106 : decode cX12_goes 106 = .ok (.iload_n 1, 1) := by decide +kernel
theorem dX12_goes_107 : decode cX12_goes 107 = .ok (.iaload, 1) := by decide +kernel
theorem dX12_goes_108 : decode cX12_goes 108 = .ok (.iastore, 1) := by decide +kernel
theorem dX12_goes_109 : decode cX12_goes 109 = .ok (.iconst 0, 1) := by decide +kernel
theorem dX12_goes_110 : decode cX12_goes 110 = .ok (.ireturn, 1) := by decide +kernel
theorem dX12_goes_111 : decode cX12_goes 111 = .ok (.aload_n 0, 1) := by decide +kernel
theorem dX12_goes_112 : decode cX12_goes 112 = .ok (.iload_n 1, 1) := by decide +kernel
theorem dX12_goes_113 : decode cX12_goes 113 = .ok (.iload_n 3, 1) := by decide +kernel
theorem dX12_goes_114 : decode cX12_goes 114 = .ok (.iconst 0, 1) := by decide +kernel
theorem dX12_goes_115 : decode cX12_goes 115 = .ok (.invokevirtual 500, 3) := by decide +kernel
theorem dX12_goes_118 : decode cX12_goes 118 = .ok (.iconst 1, 1) := by decide +kernel
theorem dX12_goes_119 : decode cX12_goes 119 = .ok (.ireturn, 1) := by decide +kernel
theorem dX12_isList_0 : decode cX12_isList 0 = .ok (.iload_n 0, 1) := by decide +kernel
theorem dX12_isList_1 : decode cX12_isList 1 = .ok (.ifCond .lt 12, 3) := by decide +kernel
theorem dX12_isList_4 : decode cX12_isList 4 = .ok (.iload_n 0, 1) := by decide +kernel
theorem dX12_isList_5 : decode cX12_isList 5 = .ok (.iconst 4, 1) := by decide +kernel
theorem dX12_isList_6 : decode cX12_isList 6 = .ok (.if_icmp .ge 7, 3) := by decide +kernel
theorem dX12_isList_9 : decode cX12_isList 9 = .ok (.iconst 1, 1) := by decide +kernel
theorem dX12_isList_10 : decode cX12_isList 10 = .ok (.goto 4, 3) := by decide +kernel
theorem dX12_isList_13 : decode cX12_isList 13 = .ok (.iconst 0, 1) := by decide +kernel
theorem dX12_isList_14 : decode cX12_isList 14 = .ok (.ireturn, 1) := by decide +kernel
theorem dX12_isChannel_0 : decode cX12_isChannel 0 = .ok (.iload_n 0, 1) := by decide +kernel
theorem dX12_isChannel_1 : decode cX12_isChannel 1 = .ok (.iconst 1, 1) := by decide +kernel
theorem dX12_isChannel_2 : decode cX12_isChannel 2 = .ok (.if_icmp .lt 13, 3) := by decide +kernel
theorem dX12_isChannel_5 : decode cX12_isChannel 5 = .ok (.iload_n 0, 1) := by decide +kernel
theorem dX12_isChannel_6 : decode cX12_isChannel 6 = .ok (.bipush 64, 2) := by decide +kernel
theorem dX12_isChannel_8 : decode cX12_isChannel 8 = .ok (.if_icmp .gt 7, 3) := by decide +kernel
theorem dX12_isChannel_11 : decode cX12_isChannel 11 = .ok (.iconst 1, 1) := by decide +kernel
theorem dX12_isChannel_12 : decode cX12_isChannel 12 = .ok (.goto 4, 3) := by decide +kernel
theorem dX12_isChannel_15 : decode cX12_isChannel 15 = .ok (.iconst 0, 1) := by decide +kernel
theorem dX12_isChannel_16 : decode cX12_isChannel 16 = .ok (.ireturn, 1) := by decide +kernel
theorem dX12_named_0 : decode cX12_named 0 = .ok (.iload_n 1, 1) := by decide +kernel
theorem dX12_named_1 : decode cX12_named 1 = .ok (.invokestatic 504, 3) := by decide +kernel
theorem dX12_named_4 : decode cX12_named 4 = .ok (.ifCond .eq 25, 3) := by decide +kernel
theorem dX12_named_7 : decode cX12_named 7 = .ok (.iload_n 2, 1) := by decide +kernel
theorem dX12_named_8 : decode cX12_named 8 = .ok (.iconst 1, 1) := by decide +kernel
theorem dX12_named_9 : decode cX12_named 9 = .ok (.if_icmp .lt 20, 3) := by decide +kernel
theorem dX12_named_12 : decode cX12_named 12 = .ok (.iload_n 2, 1) := by decide +kernel
theorem dX12_named_13 : decode cX12_named 13 = .ok (.sipush 999, 3) := by decide +kernel
theorem dX12_named_16 : decode cX12_named 16 = .ok (.if_icmp .gt 13, 3) := by decide +kernel
theorem dX12_named_19 : decode cX12_named 19 = .ok (.iload_n 3, 1) := by decide +kernel
theorem dX12_named_20 : decode cX12_named 20 = .ok (.ifCond .lt 9, 3) := by decide +kernel
theorem dX12_named_23 : decode cX12_named 23 = .ok (.iload_n 3, 1) := by decide +kernel
theorem dX12_named_24 : decode cX12_named 24 = .ok (.bipush 99, 2) := by decide +kernel
theorem dX12_named_26 : decode cX12_named 26 = .ok (.if_icmp .le 5, 3) := by decide +kernel
theorem dX12_named_29 : decode cX12_named 29 = .ok (.iconst (-1), 1) := by decide +kernel
theorem dX12_named_30 : decode cX12_named 30 = .ok (.ireturn, 1) := by decide +kernel
theorem dX12_named_31 : decode cX12_named 31 = .ok (.aload_n 0, 1) := by decide +kernel
theorem dX12_named_32 : decode cX12_named 32 = .ok (.iload_n 1, 1) := by decide +kernel
theorem dX12_named_33 : decode cX12_named 33 = .ok (.bipush 100, 2) := by decide +kernel
theorem dX12_named_35 : decode cX12_named 35 = .ok (.iload_n 2, 1) := by decide +kernel
theorem dX12_named_36 : decode cX12_named 36 = .ok (.imul, 1) := by decide +kernel
theorem dX12_named_37 : decode cX12_named 37 = .ok (.iload_n 3, 1) := by decide +kernel
theorem dX12_named_38 : decode cX12_named 38 = .ok (.iadd, 1) := by decide +kernel
theorem dX12_named_39 : decode cX12_named 39 = .ok (.invokevirtual 497, 3) := by decide +kernel
theorem dX12_named_42 : decode cX12_named 42 = .ok (.ireturn, 1) := by decide +kernel
theorem dX12_tracks_0 : decode cX12_tracks 0 = .ok (.aload_n 0, 1) := by decide +kernel
theorem dX12_tracks_1 : decode cX12_tracks 1 = .ok (.iload_n 1, 1) := by decide +kernel
theorem dX12_tracks_2 : decode cX12_tracks 2 = .ok (.iload_n 2, 1) := by decide +kernel
theorem dX12_tracks_3 : decode cX12_tracks 3 = .ok (.iload_n 3, 1) := by decide +kernel
theorem dX12_tracks_4 : decode cX12_tracks 4 = .ok (.invokevirtual 507, 3) := by decide +kernel
theorem dX12_tracks_7 : decode cX12_tracks 7 = .ok (.istore 5, 2) := by decide +kernel
theorem dX12_tracks_9 : decode cX12_tracks 9 = .ok (.iload 5, 2) := by decide +kernel
theorem dX12_tracks_11 : decode cX12_tracks 11 = .ok (.iconst (-1), 1) := by decide +kernel
theorem dX12_tracks_12 : decode cX12_tracks 12 = .ok (.if_icmp .eq 11, 3) := by decide +kernel
theorem dX12_tracks_15 : decode cX12_tracks 15 = .ok (.iload 4, 2) := by decide +kernel
theorem dX12_tracks_17 : decode cX12_tracks 17 = .ok (.invokestatic 510, 3) := by decide +kernel
theorem dX12_tracks_20 : decode cX12_tracks 20 = .ok (.ifCond .ne 7, 3) := by decide +kernel
theorem dX12_tracks_23 : decode cX12_tracks 23 = .ok (.iconst (-1), 1) := by decide +kernel
theorem dX12_tracks_24 : decode cX12_tracks 24 = .ok (.goto 21, 3) := by decide +kernel
theorem dX12_tracks_27 : decode cX12_tracks 27 = .ok (.aload_n 0, 1) := by decide +kernel
theorem dX12_tracks_28 : decode cX12_tracks 28 = .ok (.getfield 51, 3) := by decide +kernel
theorem dX12_tracks_31 : decode cX12_tracks 31 = .ok (.bipush 65, 2) := by decide +kernel
theorem dX12_tracks_33 : decode cX12_tracks 33 = .ok (.iload_n 1, 1) := by decide +kernel
theorem dX12_tracks_34 : decode cX12_tracks 34 = .ok (.bipush 60, 2) := by decide +kernel
theorem dX12_tracks_36 : decode cX12_tracks 36 = .ok (.imul, 1) := by decide +kernel
theorem dX12_tracks_37 : decode cX12_tracks 37 = .ok (.iload 5, 2) := by decide +kernel
theorem dX12_tracks_39 : decode cX12_tracks 39 = .ok (.iadd, 1) := by decide +kernel
theorem dX12_tracks_40 : decode cX12_tracks 40 = .ok (.imul, 1) := by decide +kernel
theorem dX12_tracks_41 : decode cX12_tracks 41 = .ok (.iload 4, 2) := by decide +kernel
theorem dX12_tracks_43 : decode cX12_tracks 43 = .ok (.iadd, 1) := by decide +kernel
theorem dX12_tracks_44 : decode cX12_tracks 44 = .ok (.iaload, 1) := by decide +kernel
theorem dX12_tracks_45 : decode cX12_tracks 45 = .ok (.ireturn, 1) := by decide +kernel
theorem dX12_go_0 : decode cX12_go 0 = .ok (.iload_n 1, 1) := by decide +kernel
theorem dX12_go_1 : decode cX12_go 1 = .ok (.invokestatic 504, 3) := by decide +kernel
theorem dX12_go_4 : decode cX12_go 4 = .ok (.ifCond .eq 15, 3) := by decide +kernel
theorem dX12_go_7 : decode cX12_go 7 = .ok (.aload_n 0, 1) := by decide +kernel
theorem dX12_go_8 : decode cX12_go 8 = .ok (.iload_n 1, 1) := by decide +kernel
theorem dX12_go_9 : decode cX12_go 9 = .ok (.invokevirtual 513, 3) := by decide +kernel
theorem dX12_go_12 : decode cX12_go 12 = .ok (.ifCond .eq 7, 3) := by decide +kernel
theorem dX12_go_15 : decode cX12_go 15 = .ok (.iconst 1, 1) := by decide +kernel
theorem dX12_go_16 : decode cX12_go 16 = .ok (.goto 4, 3) := by decide +kernel
theorem dX12_go_19 : decode cX12_go 19 = .ok (.iconst 0, 1) := by decide +kernel
theorem dX12_go_20 : decode cX12_go 20 = .ok (.ireturn, 1) := by decide +kernel
theorem dX12_play_0 : decode cX12_play 0 = .ok (.aload_n 0, 1) := by decide +kernel
theorem dX12_play_1 : decode cX12_play 1 = .ok (.iload_n 1, 1) := by decide +kernel
theorem dX12_play_2 : decode cX12_play 2 = .ok (.iload_n 2, 1) := by decide +kernel
theorem dX12_play_3 : decode cX12_play 3 = .ok (.iload_n 3, 1) := by decide +kernel
theorem dX12_play_4 : decode cX12_play 4 = .ok (.invokevirtual 507, 3) := by decide +kernel
theorem dX12_play_7 : decode cX12_play 7 = .ok (.istore 4, 2) := by decide +kernel
theorem dX12_play_9 : decode cX12_play 9 = .ok (.iload 4, 2) := by decide +kernel
theorem dX12_play_11 : decode cX12_play 11 = .ok (.iconst (-1), 1) := by decide +kernel
theorem dX12_play_12 : decode cX12_play 12 = .ok (.if_icmp .ne 5, 3) := by decide +kernel
theorem dX12_play_15 : decode cX12_play 15 = .ok (.iconst 0, 1) := by decide +kernel
theorem dX12_play_16 : decode cX12_play 16 = .ok (.ireturn, 1) := by decide +kernel
theorem dX12_play_17 : decode cX12_play 17 = .ok (.aload_n 0, 1) := by decide +kernel
theorem dX12_play_18 : decode cX12_play 18 = .ok (.iload_n 1, 1) := by decide +kernel
theorem dX12_play_19 : decode cX12_play 19 = .ok (.iload 4, 2) := by decide +kernel
theorem dX12_play_21 : decode cX12_play 21 = .ok (.iconst 0, 1) := by decide +kernel
theorem dX12_play_22 : decode cX12_play 22 = .ok (.invokevirtual 500, 3) := by decide +kernel
theorem dX12_play_25 : decode cX12_play 25 = .ok (.iconst 1, 1) := by decide +kernel
theorem dX12_play_26 : decode cX12_play 26 = .ok (.ireturn, 1) := by decide +kernel
theorem dX12_moves_0 : decode cX12_moves 0 = .ok (.aload_n 0, 1) := by decide +kernel
theorem dX12_moves_1 : decode cX12_moves 1 = .ok (.getfield 121, 3) := by decide +kernel
theorem dX12_moves_4 : decode cX12_moves 4 = .ok (.iload_n 1, 1) := by decide +kernel
theorem dX12_moves_5 : decode cX12_moves 5 = .ok (.iaload, 1) := by decide +kernel
theorem dX12_moves_6 : decode cX12_moves 6 = .ok (.aload_n 0, 1) := by decide +kernel
theorem dX12_moves_7 : decode cX12_moves 7 = .ok (.getfield 124, 3) := by decide +kernel
theorem dX12_moves_10 : decode cX12_moves 10 = .ok (.iload_n 1, 1) := by decide +kernel
theorem dX12_moves_11 : decode cX12_moves 11 = .ok (.iaload, 1) := by decide +kernel
theorem dX12_moves_12 : decode cX12_moves 12 = .ok (.if_icmp .eq 7, 3) := by decide +kernel
theorem dX12_moves_15 : decode cX12_moves 15 = .ok (.iconst 1, 1) := by decide +kernel
theorem dX12_moves_16 : decode cX12_moves 16 = .ok (.goto 4, 3) := by decide +kernel
theorem dX12_moves_19 : decode cX12_moves 19 = .ok (.iconst 0, 1) := by decide +kernel
theorem dX12_moves_20 : decode cX12_moves 20 = .ok (.ireturn, 1) := by decide +kernel
theorem dX12_of_0 : decode cX12_of 0 = .ok (.iload_n 1, 1) := by decide +kernel
theorem dX12_of_1 : decode cX12_of 1 = .ok (.invokestatic 504, 3) := by decide +kernel
theorem dX12_of_4 : decode cX12_of 4 = .ok (.ifCond .ne 5, 3) := by decide +kernel
theorem dX12_of_7 : decode cX12_of 7 = .ok (.iconst (-1), 1) := by decide +kernel
theorem dX12_of_8 : decode cX12_of 8 = .ok (.ireturn, 1) := by decide +kernel
theorem dX12_of_9 : decode cX12_of 9 = .ok (.iload_n 2, 1) := by decide +kernel
theorem dX12_of_10 : decode cX12_of 10 = .ok (.ifCond .ne 34, 3) := by decide +kernel
theorem dX12_of_13 : decode cX12_of 13 = .ok (.aload_n 0, 1) := by decide +kernel
theorem dX12_of_14 : decode cX12_of 14 = .ok (.getfield 109, 3) := by decide +kernel
theorem dX12_of_17 : decode cX12_of 17 = .ok (.iload_n 1, 1) := by decide +kernel
theorem dX12_of_18 : decode cX12_of 18 = .ok (.iaload, 1) := by decide +kernel
theorem dX12_of_19 : decode cX12_of 19 = .ok (.iconst (-1), 1) := by decide +kernel
theorem dX12_of_20 : decode cX12_of 20 = .ok (.if_icmp .ne 7, 3) := by decide +kernel
theorem dX12_of_23 : decode cX12_of 23 = .ok (.iconst 0, 1) := by decide +kernel
theorem dX12_of_24 : decode cX12_of 24 = .ok (.goto 19, 3) := by decide +kernel
theorem dX12_of_27 : decode cX12_of 27 = .ok (.aload_n 0, 1) := by decide +kernel
theorem dX12_of_28 : decode cX12_of 28 = .ok (.getfield 27, 3) := by decide +kernel
theorem dX12_of_31 : decode cX12_of 31 = .ok (.iload_n 1, 1) := by decide +kernel
theorem dX12_of_32 : decode cX12_of 32 = .ok (.bipush 60, 2) := by decide +kernel
theorem dX12_of_34 : decode cX12_of 34 = .ok (.imul, 1) := by decide +kernel
theorem dX12_of_35 : decode cX12_of 35 = .ok (.aload_n 0, 1) := by decide +kernel
theorem dX12_of_36 : decode cX12_of 36 = .ok (.getfield 109, 3) := by decide +kernel
theorem dX12_of_39 : decode cX12_of 39 = .ok (.iload_n 1, 1) := by decide +kernel
theorem dX12_of_40 : decode cX12_of 40 = .ok (.iaload, 1) := by decide +kernel
theorem dX12_of_41 : decode cX12_of 41 = .ok (.iadd, 1) := by decide +kernel
theorem dX12_of_42 : decode cX12_of 42 = .ok (.iaload, 1) := by decide +kernel
theorem dX12_of_43 : decode cX12_of 43 = .ok (.ireturn, 1) := by decide +kernel
theorem dX12_of_44 : decode cX12_of 44 = .ok (.iload_n 2, 1) := by decide +kernel
theorem dX12_of_45 : decode cX12_of 45 = .ok (.iconst 1, 1) := by decide +kernel
theorem dX12_of_46 : decode cX12_of 46 = .ok (.if_icmp .ne 29, 3) := by decide +kernel
theorem dX12_of_49 : decode cX12_of 49 = .ok (.aload_n 0, 1) := by decide +kernel
theorem dX12_of_50 : decode cX12_of 50 = .ok (.getfield 112, 3) := by decide +kernel
theorem dX12_of_53 : decode cX12_of 53 = .ok (.iload_n 1, 1) := by decide +kernel
theorem dX12_of_54 : decode cX12_of 54 = .ok (.iaload, 1) := by decide +kernel
theorem dX12_of_55 : decode cX12_of 55 = .ok (.iconst (-1), 1) := by decide +kernel
theorem dX12_of_56 : decode cX12_of 56 = .ok (.if_icmp .ne 7, 3) := by decide +kernel
theorem dX12_of_59 : decode cX12_of 59 = .ok (.iconst 0, 1) := by decide +kernel
theorem dX12_of_60 : decode cX12_of 60 = .ok (.goto 14, 3) := by decide +kernel
theorem dX12_of_63 : decode cX12_of 63 = .ok (.aload_n 0, 1) := by decide +kernel
theorem dX12_of_64 : decode cX12_of 64 = .ok (.getfield 112, 3) := by decide +kernel
theorem dX12_of_67 : decode cX12_of 67 = .ok (.iload_n 1, 1) := by decide +kernel
theorem dX12_of_68 : decode cX12_of 68 = .ok (.iaload, 1) := by decide +kernel
theorem dX12_of_69 : decode cX12_of 69 = .ok (.aload_n 0, 1) := by decide +kernel
theorem dX12_of_70 : decode cX12_of 70 = .ok (.getfield 490, 3) := by decide +kernel
theorem dX12_of_73 : decode cX12_of 73 = .ok (.isub, 1) := by decide +kernel
theorem dX12_of_74 : decode cX12_of 74 = .ok (.ireturn, 1) := by decide +kernel
theorem dX12_of_75 : decode cX12_of 75 = .ok (.iload_n 2, 1) := by decide +kernel
theorem dX12_of_76 : decode cX12_of 76 = .ok (.iconst 2, 1) := by decide +kernel
theorem dX12_of_77 : decode cX12_of 77 = .ok (.if_icmp .ne 29, 3) := by decide +kernel
theorem dX12_of_80 : decode cX12_of 80 = .ok (.aload_n 0, 1) := by decide +kernel
theorem dX12_of_81 : decode cX12_of 81 = .ok (.getfield 115, 3) := by decide +kernel
theorem dX12_of_84 : decode cX12_of 84 = .ok (.iload_n 1, 1) := by decide +kernel
theorem dX12_of_85 : decode cX12_of 85 = .ok (.iaload, 1) := by decide +kernel
theorem dX12_of_86 : decode cX12_of 86 = .ok (.iconst (-1), 1) := by decide +kernel
theorem dX12_of_87 : decode cX12_of 87 = .ok (.if_icmp .ne 7, 3) := by decide +kernel
theorem dX12_of_90 : decode cX12_of 90 = .ok (.iconst (-1), 1) := by decide +kernel
theorem dX12_of_91 : decode cX12_of 91 = .ok (.goto 14, 3) := by decide +kernel
theorem dX12_of_94 : decode cX12_of 94 = .ok (.aload_n 0, 1) := by decide +kernel
theorem dX12_of_95 : decode cX12_of 95 = .ok (.getfield 115, 3) := by decide +kernel
theorem dX12_of_98 : decode cX12_of 98 = .ok (.iload_n 1, 1) := by decide +kernel
theorem dX12_of_99 : decode cX12_of 99 = .ok (.iaload, 1) := by decide +kernel
theorem dX12_of_100 : decode cX12_of 100 = .ok (.aload_n 0, 1) := by decide +kernel
theorem dX12_of_101 : decode cX12_of 101 = .ok (.getfield 490, 3) := by decide +kernel
theorem dX12_of_104 : decode cX12_of 104 = .ok (.isub, 1) := by decide +kernel
theorem dX12_of_105 : decode cX12_of 105 = .ok (.ireturn, 1) := by decide +kernel
theorem dX12_of_106 : decode cX12_of 106 = .ok (.iload_n 2, 1) := by decide +kernel
theorem dX12_of_107 : decode cX12_of 107 = .ok (.iconst 3, 1) := by decide +kernel
theorem dX12_of_108 : decode cX12_of 108 = .ok (.if_icmp .ne 10, 3) := by decide +kernel
theorem dX12_of_111 : decode cX12_of 111 = .ok (.aload_n 0, 1) := by decide +kernel
theorem dX12_of_112 : decode cX12_of 112 = .ok (.getfield 118, 3) := by decide +kernel
theorem dX12_of_115 : decode cX12_of 115 = .ok (.iload_n 1, 1) := by decide +kernel
theorem dX12_of_116 : decode cX12_of 116 = .ok (.iaload, 1) := by decide +kernel
theorem dX12_of_117 : decode cX12_of 117 = .ok (.ireturn, 1) := by decide +kernel
theorem dX12_of_118 : decode cX12_of 118 = .ok (.iload_n 2, 1) := by decide +kernel
theorem dX12_of_119 : decode cX12_of 119 = .ok (.iconst 4, 1) := by decide +kernel
theorem dX12_of_120 : decode cX12_of 120 = .ok (.if_icmp .ne 45, 3) := by decide +kernel
theorem dX12_of_123 : decode cX12_of 123 = .ok (.iconst 0, 1) := by decide +kernel
theorem dX12_of_124 : decode cX12_of 124 = .ok (.istore_n 3, 1) := by decide +kernel
theorem dX12_of_125 : decode cX12_of 125 = .ok (.iconst 1, 1) := by decide +kernel
theorem dX12_of_126 : decode cX12_of 126 = .ok (.istore 4, 2) := by decide +kernel
theorem dX12_of_128 : decode cX12_of 128 = .ok (.iload 4, 2) := by decide +kernel
theorem dX12_of_130 : decode cX12_of 130 = .ok (.bipush 64, 2) := by decide +kernel
theorem dX12_of_132 : decode cX12_of 132 = .ok (.if_icmp .gt 31, 3) := by decide +kernel
theorem dX12_of_135 : decode cX12_of 135 = .ok (.iload_n 3, 1) := by decide +kernel
theorem dX12_of_136 : decode cX12_of 136 = .ok (.aload_n 0, 1) := by decide +kernel
theorem dX12_of_137 : decode cX12_of 137 = .ok (.bipush 65, 2) := by decide +kernel
theorem dX12_of_139 : decode cX12_of 139 = .ok (.iload_n 1, 1) := by decide +kernel
theorem dX12_of_140 : decode cX12_of 140 = .ok (.imul, 1) := by decide +kernel
theorem dX12_of_141 : decode cX12_of 141 = .ok (.iload 4, 2) := by decide +kernel
theorem dX12_of_143 : decode cX12_of 143 = .ok (.iadd, 1) := by decide +kernel
theorem dX12_of_144 : decode cX12_of 144 = .ok (.invokevirtual 516, 3) := by decide +kernel
theorem dX12_of_147 : decode cX12_of 147 = .ok (.ifCond .eq 7, 3) := by decide +kernel
theorem dX12_of_150 : decode cX12_of 150 = .ok (.iconst 1, 1) := by decide +kernel
theorem dX12_of_151 : decode cX12_of 151 = .ok (.goto 4, 3) := by decide +kernel
theorem dX12_of_154 : decode cX12_of 154 = .ok (.iconst 0, 1) := by decide +kernel
theorem dX12_of_155 : decode cX12_of 155 = .ok (.iadd, 1) := by decide +kernel
theorem dX12_of_156 : decode cX12_of 156 = .ok (.istore_n 3, 1) := by decide +kernel
theorem dX12_of_157 : decode cX12_of 157 = .ok (.iinc 4 1, 3) := by decide +kernel
theorem dX12_of_160 : decode cX12_of 160 = .ok (.goto (-32), 3) := by decide +kernel
theorem dX12_of_163 : decode cX12_of 163 = .ok (.iload_n 3, 1) := by decide +kernel
theorem dX12_of_164 : decode cX12_of 164 = .ok (.ireturn, 1) := by decide +kernel
theorem dX12_of_165 : decode cX12_of 165 = .ok (.iload_n 2, 1) := by decide +kernel
theorem dX12_of_166 : decode cX12_of 166 = .ok (.iconst 5, 1) := by decide +kernel
theorem dX12_of_167 : decode cX12_of 167 = .ok (.if_icmp .ne 12, 3) := by decide +kernel
theorem dX12_of_170 : decode cX12_of 170 = .ok (.aload_n 0, 1) := by decide +kernel
theorem dX12_of_171 : decode cX12_of 171 = .ok (.getfield 24, 3) := by decide +kernel
theorem dX12_of_174 : decode cX12_of 174 = .ok (.iload_n 1, 1) := by decide +kernel
theorem dX12_of_175 : decode cX12_of 175 = .ok (.iaload, 1) := by decide +kernel
theorem dX12_of_176 : decode cX12_of 176 = .ok (.goto 4, 3) := by decide +kernel
theorem dX12_of_179 : decode cX12_of 179 = .ok (.iconst (-1), 1) := by decide +kernel
theorem dX12_of_180 : decode cX12_of 180 = .ok (.ireturn, 1) := by decide +kernel
theorem dX12_level_0 : decode cX12_level 0 = .ok (.iload_n 1, 1) := by decide +kernel
theorem dX12_level_1 : decode cX12_level 1 = .ok (.invokestatic 504, 3) := by decide +kernel
theorem dX12_level_4 : decode cX12_level 4 = .ok (.ifCond .eq 24, 3) := by decide +kernel
theorem dX12_level_7 : decode cX12_level 7 = .ok (.iload_n 2, 1) := by decide +kernel
theorem dX12_level_8 : decode cX12_level 8 = .ok (.invokestatic 510, 3) := by decide +kernel
theorem dX12_level_11 : decode cX12_level 11 = .ok (.ifCond .eq 17, 3) := by decide +kernel
theorem dX12_level_14 : decode cX12_level 14 = .ok (.aload_n 0, 1) := by decide +kernel
theorem dX12_level_15 : decode cX12_level 15 = .ok (.getfield 121, 3) := by decide +kernel
theorem dX12_level_18 : decode cX12_level 18 = .ok (.bipush 65, 2) := by decide +kernel
theorem dX12_level_20 : decode cX12_level 20 = .ok (.iload_n 1, 1) := by decide +kernel
theorem dX12_level_21 : decode cX12_level 21 = .ok (.imul, 1) := by decide +kernel
theorem dX12_level_22 : decode cX12_level 22 = .ok (.iload_n 2, 1) := by decide +kernel
theorem dX12_level_23 : decode cX12_level 23 = .ok (.iadd, 1) := by decide +kernel
theorem dX12_level_24 : decode cX12_level 24 = .ok (.iaload, 1) := by decide +kernel
theorem dX12_level_25 : decode cX12_level 25 = .ok (.goto 4, 3) := by decide +kernel
theorem dX12_level_28 : decode cX12_level 28 = .ok (.iconst (-1), 1) := by decide +kernel
theorem dX12_level_29 : decode cX12_level 29 = .ok (.ireturn, 1) := by decide +kernel
theorem dX12_out_0 : decode cX12_out 0 = .ok (.iload_n 1, 1) := by decide +kernel
theorem dX12_out_1 : decode cX12_out 1 = .ok (.invokestatic 510, 3) := by decide +kernel
theorem dX12_out_4 : decode cX12_out 4 = .ok (.ifCond .ne 5, 3) := by decide +kernel
theorem dX12_out_7 : decode cX12_out 7 = .ok (.iconst (-1), 1) := by decide +kernel
theorem dX12_out_8 : decode cX12_out 8 = .ok (.ireturn, 1) := by decide +kernel
theorem dX12_out_9 : decode cX12_out 9 = .ok (.iload_n 1, 1) := by decide +kernel
theorem dX12_out_10 : decode cX12_out 10 = .ok (.bipush 49, 2) := by decide +kernel
theorem dX12_out_12 : decode cX12_out 12 = .ok (.if_icmp .lt 34, 3) := by decide +kernel
theorem dX12_out_15 : decode cX12_out 15 = .ok (.aload_n 0, 1) := by decide +kernel
theorem dX12_out_16 : decode cX12_out 16 = .ok (.getfield 136, 3) := by decide +kernel
theorem dX12_out_19 : decode cX12_out 19 = .ok (.iload_n 1, 1) := by decide +kernel
theorem dX12_out_20 : decode cX12_out 20 = .ok (.iaload, 1) := by decide +kernel
theorem dX12_out_21 : decode cX12_out 21 = .ok (.iconst (-1), 1) := by decide +kernel
theorem dX12_out_22 : decode cX12_out 22 = .ok (.if_icmp .ne 7, 3) := by decide +kernel
theorem dX12_out_25 : decode cX12_out 25 = .ok (.iconst 0, 1) := by decide +kernel
theorem dX12_out_26 : decode cX12_out 26 = .ok (.goto 19, 3) := by decide +kernel
theorem dX12_out_29 : decode cX12_out 29 = .ok (.aload_n 0, 1) := by decide +kernel
theorem dX12_out_30 : decode cX12_out 30 = .ok (.getfield 121, 3) := by decide +kernel
theorem dX12_out_33 : decode cX12_out 33 = .ok (.bipush 65, 2) := by decide +kernel
theorem dX12_out_35 : decode cX12_out 35 = .ok (.aload_n 0, 1) := by decide +kernel
theorem dX12_out_36 : decode cX12_out 36 = .ok (.getfield 136, 3) := by decide +kernel
theorem dX12_out_39 : decode cX12_out 39 = .ok (.iload_n 1, 1) := by decide +kernel
theorem dX12_out_40 : decode cX12_out 40 = .ok (.iaload, 1) := by decide +kernel
theorem dX12_out_41 : decode cX12_out 41 = .ok (.imul, 1) := by decide +kernel
theorem dX12_out_42 : decode cX12_out 42 = .ok (.iload_n 1, 1) := by decide +kernel
theorem dX12_out_43 : decode cX12_out 43 = .ok (.iadd, 1) := by decide +kernel
theorem dX12_out_44 : decode cX12_out 44 = .ok (.iaload, 1) := by decide +kernel
theorem dX12_out_45 : decode cX12_out 45 = .ok (.ireturn, 1) := by decide +kernel
theorem dX12_out_46 : decode cX12_out 46 = .ok (.lconst 0, 1) := by decide +kernel
theorem dX12_out_47 : decode cX12_out 47 = .ok (.lstore_n 2, 1) := by decide +kernel
theorem dX12_out_48 : decode cX12_out 48 = .ok (.iconst 0, 1) := by decide +kernel
theorem dX12_out_49 : decode cX12_out 49 = .ok (.istore 4, 2) := by decide +kernel
theorem dX12_out_51 : decode cX12_out 51 = .ok (.iload 4, 2) := by decide +kernel
theorem dX12_out_53 : decode cX12_out 53 = .ok (.iconst 4, 1) := by decide +kernel
theorem dX12_out_54 : decode cX12_out 54 = .ok (.if_icmp .ge 53, 3) := by decide +kernel
theorem dX12_out_57 : decode cX12_out 57 = .ok (.aload_n 0, 1) := by decide +kernel
theorem dX12_out_58 : decode cX12_out 58 = .ok (.getfield 121, 3) := by decide +kernel
theorem dX12_out_61 : decode cX12_out 61 = .ok (.bipush 65, 2) := by decide +kernel
theorem dX12_out_63 : decode cX12_out 63 = .ok (.iload 4, 2) := by decide +kernel
theorem dX12_out_65 : decode cX12_out 65 = .ok (.imul, 1) := by decide +kernel
theorem dX12_out_66 : decode cX12_out 66 = .ok (.iload_n 1, 1) := by decide +kernel
theorem dX12_out_67 : decode cX12_out 67 = .ok (.iadd, 1) := by decide +kernel
theorem dX12_out_68 : decode cX12_out 68 = .ok (.iaload, 1) := by decide +kernel
theorem dX12_out_69 : decode cX12_out 69 = .ok (.i2l, 1) := by decide +kernel
theorem dX12_out_70 : decode cX12_out 70 = .ok (.aload_n 0, 1) := by decide +kernel
theorem dX12_out_71 : decode cX12_out 71 = .ok (.getfield 118, 3) := by decide +kernel
theorem dX12_out_74 : decode cX12_out 74 = .ok (.iload 4, 2) := by decide +kernel
theorem dX12_out_76 : decode cX12_out 76 = .ok (.iaload, 1) := by decide +kernel
theorem dX12_out_77 : decode cX12_out 77 = .ok (.i2l, 1) := by decide +kernel
theorem dX12_out_78 : decode cX12_out 78 = .ok (.lmul, 1) := by decide +kernel
theorem dX12_out_79 : decode cX12_out 79 = .ok (.ldc2_w 519, 3) := by decide +kernel
theorem dX12_out_82 : decode cX12_out 82 = .ok (.invokestatic 521, 3) := by decide +kernel
theorem dX12_out_85 : decode cX12_out 85 = .ok (.lstore 5, 2) := by decide +kernel
theorem dX12_out_87 : decode cX12_out 87 = .ok (.lload 5, 2) := by decide +kernel
theorem dX12_out_89 : decode cX12_out 89 = .ok (.lload_n 2, 1) := by decide +kernel
theorem dX12_out_90 : decode cX12_out 90 = .ok (.lcmp, 1) := by decide +kernel
theorem dX12_out_91 : decode cX12_out 91 = .ok (.ifCond .le 8, 3) := by decide +kernel
theorem dX12_out_94 : decode cX12_out 94 = .ok (.lload 5, 2) := by decide +kernel
theorem dX12_out_96 : decode cX12_out 96 = .ok (.goto 4, 3) := by decide +kernel
theorem dX12_out_99 : decode cX12_out 99 = .ok (.lload_n 2, 1) := by decide +kernel
theorem dX12_out_100 : decode cX12_out 100 = .ok (.lstore_n 2, 1) := by decide +kernel
theorem dX12_out_101 : decode cX12_out 101 = .ok (.iinc 4 1, 3) := by decide +kernel
theorem dX12_out_104 : decode cX12_out 104 = .ok (.goto (-53), 3) := by decide +kernel
theorem dX12_out_107 : decode cX12_out 107 = .ok (.lload_n 2, 1) := by decide +kernel
theorem dX12_out_108 : decode cX12_out 108 = .ok (.l2i, 1) := by decide +kernel
theorem dX12_out_109 : decode cX12_out 109 = .ok (.ireturn, 1) := by decide +kernel
theorem dX12_patch_0 : decode cX12_patch 0 = .ok (.iload_n 1, 1) := by decide +kernel
theorem dX12_patch_1 : decode cX12_patch 1 = .ok (.ifCond .lt 28, 3) := by decide +kernel
theorem dX12_patch_4 : decode cX12_patch 4 = .ok (.iload_n 1, 1) := by decide +kernel
theorem dX12_patch_5 : decode cX12_patch 5 = .ok (.bipush 127, 2) := by decide +kernel
theorem dX12_patch_7 : decode cX12_patch 7 = .ok (.if_icmp .gt 22, 3) := by decide +kernel
theorem dX12_patch_10 : decode cX12_patch 10 = .ok (.iload_n 2, 1) := by decide +kernel
theorem dX12_patch_11 : decode cX12_patch 11 = .ok (.ifCond .lt 18, 3) := by decide +kernel
theorem dX12_patch_14 : decode cX12_patch 14 = .ok (.iload_n 2, 1) := by decide +kernel
theorem dX12_patch_15 : decode cX12_patch 15 = .ok (.bipush 64, 2) := by decide +kernel
theorem dX12_patch_17 : decode cX12_patch 17 = .ok (.if_icmp .gt 12, 3) := by decide +kernel
theorem dX12_patch_20 : decode cX12_patch 20 = .ok (.iload_n 3, 1) := by decide +kernel
theorem dX12_patch_21 : decode cX12_patch 21 = .ok (.ifCond .lt 8, 3) := by decide +kernel
theorem dX12_patch_24 : decode cX12_patch 24 = .ok (.iload_n 3, 1) := by decide +kernel
theorem dX12_patch_25 : decode cX12_patch 25 = .ok (.iconst 3, 1) := by decide +kernel
theorem dX12_patch_26 : decode cX12_patch 26 = .ok (.if_icmp .le 5, 3) := by decide +kernel
theorem dX12_patch_29 : decode cX12_patch 29 = .ok (.iconst 0, 1) := by decide +kernel
theorem dX12_patch_30 : decode cX12_patch 30 = .ok (.ireturn, 1) := by decide +kernel
theorem dX12_patch_31 : decode cX12_patch 31 = .ok (.aload_n 0, 1) := by decide +kernel
theorem dX12_patch_32 : decode cX12_patch 32 = .ok (.getfield 139, 3) := by decide +kernel
theorem dX12_patch_35 : decode cX12_patch 35 = .ok (.iload_n 1, 1) := by decide +kernel
theorem dX12_patch_36 : decode cX12_patch 36 = .ok (.iload_n 2, 1) := by decide +kernel
theorem dX12_patch_37 : decode cX12_patch 37 = .ok (.iastore, 1) := by decide +kernel
theorem dX12_patch_38 : decode cX12_patch 38 = .ok (.aload_n 0, 1) := by decide +kernel
theorem dX12_patch_39 : decode cX12_patch 39 = .ok (.getfield 142, 3) := by decide +kernel
theorem dX12_patch_42 : decode cX12_patch 42 = .ok (.iload_n 1, 1) := by decide +kernel
theorem dX12_patch_43 : decode cX12_patch 43 = .ok (.iload_n 3, 1) := by decide +kernel
theorem dX12_patch_44 : decode cX12_patch 44 = .ok (.iastore, 1) := by decide +kernel
theorem dX12_patch_45 : decode cX12_patch 45 = .ok (.iconst 1, 1) := by decide +kernel
theorem dX12_patch_46 : decode cX12_patch 46 = .ok (.ireturn, 1) := by decide +kernel
theorem dX12_grand_0 : decode cX12_grand 0 = .ok (.iload_n 1, 1) := by decide +kernel
theorem dX12_grand_1 : decode cX12_grand 1 = .ok (.ifCond .lt 10, 3) := by decide +kernel
theorem dX12_grand_4 : decode cX12_grand 4 = .ok (.iload_n 1, 1) := by decide +kernel
theorem dX12_grand_5 : decode cX12_grand 5 = .ok (.sipush 255, 3) := by decide +kernel
theorem dX12_grand_8 : decode cX12_grand 8 = .ok (.if_icmp .le 5, 3) := by decide +kernel
theorem dX12_grand_11 : decode cX12_grand 11 = .ok (.iconst 0, 1) := by decide +kernel
theorem dX12_grand_12 : decode cX12_grand 12 = .ok (.ireturn, 1) := by decide +kernel
theorem dX12_grand_13 : decode cX12_grand 13 = .ok (.aload_n 0, 1) := by decide +kernel
theorem dX12_grand_14 : decode cX12_grand 14 = .ok (.iload_n 1, 1) := by decide +kernel
theorem dX12_grand_15 : decode cX12_grand 15 = .ok (.putfield 341, 3) := by decide +kernel
theorem dX12_grand_18 : decode cX12_grand 18 = .ok (.iconst 1, 1) := by decide +kernel
theorem dX12_grand_19 : decode cX12_grand 19 = .ok (.ireturn, 1) := by decide +kernel
theorem dX12_wire_0 : decode cX12_wire 0 = .ok (.iload_n 1, 1) := by decide +kernel
theorem dX12_wire_1 : decode cX12_wire 1 = .ok (.ifCond .lt 9, 3) := by decide +kernel
theorem dX12_wire_4 : decode cX12_wire 4 = .ok (.iload_n 1, 1) := by decide +kernel
theorem dX12_wire_5 : decode cX12_wire 5 = .ok (.bipush 127, 2) := by decide +kernel
theorem dX12_wire_7 : decode cX12_wire 7 = .ok (.if_icmp .le 5, 3) := by decide +kernel
theorem dX12_wire_10 : decode cX12_wire 10 = .ok (.iconst (-1), 1) := by decide +kernel
theorem dX12_wire_11 : decode cX12_wire 11 = .ok (.ireturn, 1) := by decide +kernel
theorem dX12_wire_12 : decode cX12_wire 12 = .ok (.aload_n 0, 1) := by decide +kernel
theorem dX12_wire_13 : decode cX12_wire 13 = .ok (.getfield 139, 3) := by decide +kernel
theorem dX12_wire_16 : decode cX12_wire 16 = .ok (.iload_n 1, 1) := by decide +kernel
theorem dX12_wire_17 : decode cX12_wire 17 = .ok (.iaload, 1) := by decide +kernel
theorem dX12_wire_18 : decode cX12_wire 18 = .ok (.ifCond .ne 5, 3) := by decide +kernel
theorem dX12_wire_21 : decode cX12_wire 21 = .ok (.iconst 0, 1) := by decide +kernel
theorem dX12_wire_22 : decode cX12_wire 22 = .ok (.ireturn, 1) := by decide +kernel
theorem dX12_wire_23 : decode cX12_wire 23 = .ok (.aload_n 0, 1) := by decide +kernel
theorem dX12_wire_24 : decode cX12_wire 24 = .ok (.aload_n 0, 1) := by decide +kernel
theorem dX12_wire_25 : decode cX12_wire 25 = .ok (.getfield 139, 3) := by decide +kernel
theorem dX12_wire_28 : decode cX12_wire 28 = .ok (.iload_n 1, 1) := by decide +kernel
theorem dX12_wire_29 : decode cX12_wire 29 = .ok (.iaload, 1) := by decide +kernel
theorem dX12_wire_30 : decode cX12_wire 30 = .ok (.invokevirtual 525, 3) := by decide +kernel
theorem dX12_wire_33 : decode cX12_wire 33 = .ok (.i2l, 1) := by decide +kernel
theorem dX12_wire_34 : decode cX12_wire 34 = .ok (.lstore_n 2, 1) := by decide +kernel
theorem dX12_wire_35 : decode cX12_wire 35 = .ok (.aload_n 0, 1) := by decide +kernel
theorem dX12_wire_36 : decode cX12_wire 36 = .ok (.getfield 142, 3) := by decide +kernel
theorem dX12_wire_39 : decode cX12_wire 39 = .ok (.iload_n 1, 1) := by decide +kernel
theorem dX12_wire_40 : decode cX12_wire 40 = .ok (.iaload, 1) := by decide +kernel
theorem dX12_wire_41 : decode cX12_wire 41 = .ok (.iconst 1, 1) := by decide +kernel
theorem dX12_wire_42 : decode cX12_wire 42 = .ok (.if_icmp .ne 16, 3) := by decide +kernel
theorem dX12_wire_45 : decode cX12_wire 45 = .ok (.lload_n 2, 1) := by decide +kernel
theorem dX12_wire_46 : decode cX12_wire 46 = .ok (.lload_n 2, 1) := by decide +kernel
theorem dX12_wire_47 : decode cX12_wire 47 = .ok (.lmul, 1) := by decide +kernel
theorem dX12_wire_48 : decode cX12_wire 48 = .ok (.ldc2_w 519, 3) := by decide +kernel
theorem dX12_wire_51 : decode cX12_wire 51 = .ok (.invokestatic 521, 3) := by decide +kernel
theorem dX12_wire_54 : decode cX12_wire 54 = .ok (.lstore_n 2, 1) := by decide +kernel
theorem dX12_wire_55 : decode cX12_wire 55 = .ok (.goto 48, 3) := by decide +kernel
theorem dX12_wire_58 : decode cX12_wire 58 = .ok (.aload_n 0, 1) := by decide +kernel
theorem dX12_wire_59 : decode cX12_wire 59 = .ok (.getfield 142, 3) := by decide +kernel
theorem dX12_wire_62 : decode cX12_wire 62 = .ok (.iload_n 1, 1) := by decide +kernel
theorem dX12_wire_63 : decode cX12_wire 63 = .ok (.iaload, 1) := by decide +kernel
theorem dX12_wire_64 : decode cX12_wire 64 = .ok (.iconst 2, 1) := by decide +kernel
theorem dX12_wire_65 : decode cX12_wire 65 = .ok (.if_icmp .ne 22, 3) := by decide +kernel
theorem dX12_wire_68 : decode cX12_wire 68 = .ok (.lload_n 2, 1) := by decide +kernel
theorem dX12_wire_69 : decode cX12_wire 69 = .ok (.ldc2_w 529, 3) := by decide +kernel
theorem dX12_wire_72 : decode cX12_wire 72 = .ok (.lcmp, 1) := by decide +kernel
theorem dX12_wire_73 : decode cX12_wire 73 = .ok (.ifCond .lt 9, 3) := by decide +kernel
theorem dX12_wire_76 : decode cX12_wire 76 = .ok (.ldc2_w 519, 3) := by decide +kernel
theorem dX12_wire_79 : decode cX12_wire 79 = .ok (.goto 4, 3) := by decide +kernel
theorem dX12_wire_82 : decode cX12_wire 82 = .ok (.lconst 0, 1) := by decide +kernel
theorem dX12_wire_83 : decode cX12_wire 83 = .ok (.lstore_n 2, 1) := by decide +kernel
theorem dX12_wire_84 : decode cX12_wire 84 = .ok (.goto 19, 3) := by decide +kernel
theorem dX12_wire_87 : decode cX12_wire 87 = .ok (.aload_n 0, 1) := by decide +kernel
theorem dX12_wire_88 : decode cX12_wire 88 = .ok (.getfield 142, 3) := by decide +kernel
theorem dX12_wire_91 : decode cX12_wire 91 = .ok (.iload_n 1, 1) := by decide +kernel
theorem dX12_wire_92 : decode cX12_wire 92 = .ok (.iaload, 1) := by decide +kernel
theorem dX12_wire_93 : decode cX12_wire 93 = .ok (.iconst 3, 1) := by decide +kernel
theorem dX12_wire_94 : decode cX12_wire 94 = .ok (.if_icmp .ne 9, 3) := by decide +kernel
theorem dX12_wire_97 : decode cX12_wire 97 = .ok (.ldc2_w 519, 3) := by decide +kernel
theorem dX12_wire_100 : decode cX12_wire 100 = .ok (.lload_n 2, 1) := by decide +kernel
theorem dX12_wire_101 : decode cX12_wire 101 = .ok (.lsub, 1) := by decide +kernel
theorem dX12_wire_102 : decode cX12_wire 102 = .ok (.lstore_n 2, 1) := by decide +kernel
theorem dX12_wire_103 : decode cX12_wire 103 = .ok (.lload_n 2, 1) := by decide +kernel
theorem dX12_wire_104 : decode cX12_wire 104 = .ok (.aload_n 0, 1) := by decide +kernel
theorem dX12_wire_105 : decode cX12_wire 105 = .ok (.getfield 341, 3) := by decide +kernel
theorem dX12_wire_108 : decode cX12_wire 108 = .ok (.i2l, 1) := by decide +kernel
theorem dX12_wire_109 : decode cX12_wire 109 = .ok (.lmul, 1) := by decide +kernel
theorem dX12_wire_110 : decode cX12_wire 110 = .ok (.ldc2_w 519, 3) := by decide +kernel
theorem dX12_wire_113 : decode cX12_wire 113 = .ok (.invokestatic 521, 3) := by decide +kernel
theorem dX12_wire_116 : decode cX12_wire 116 = .ok (.l2i, 1) := by decide +kernel
theorem dX12_wire_117 : decode cX12_wire 117 = .ok (.ireturn, 1) := by decide +kernel
theorem dX12_lock_0 : decode cX12_lock 0 = .ok (.iload_n 1, 1) := by decide +kernel
theorem dX12_lock_1 : decode cX12_lock 1 = .ok (.ifCond .lt 9, 3) := by decide +kernel
theorem dX12_lock_4 : decode cX12_lock 4 = .ok (.iload_n 1, 1) := by decide +kernel
theorem dX12_lock_5 : decode cX12_lock 5 = .ok (.bipush 7, 2) := by decide +kernel
theorem dX12_lock_7 : decode cX12_lock 7 = .ok (.if_icmp .le 10, 3) := by decide +kernel
theorem dX12_lock_10 : decode cX12_lock 10 = .ok (.aload_n 0, 1) := by decide +kernel
theorem dX12_lock_11 : decode cX12_lock 11 = .ok (.iconst 0, 1) := by decide +kernel
theorem dX12_lock_12 : decode cX12_lock 12 = .ok (.putfield 345, 3) := by decide +kernel
theorem dX12_lock_15 : decode cX12_lock 15 = .ok (.iconst (-1), 1) := by decide +kernel
theorem dX12_lock_16 : decode cX12_lock 16 = .ok (.ireturn, 1) := by decide +kernel
theorem dX12_lock_17 : decode cX12_lock 17 = .ok (.aload_n 0, 1) := by decide +kernel
theorem dX12_lock_18 : decode cX12_lock 18 = .ok (.invokevirtual 426, 3) := by decide +kernel
theorem dX12_lock_21 : decode cX12_lock 21 = .ok (.aload_n 0, 1) := by decide +kernel
theorem dX12_lock_22 : decode cX12_lock 22 = .ok (.iconst 0, 1) := by decide +kernel
theorem dX12_lock_23 : decode cX12_lock 23 = .ok (.invokevirtual 531, 3) := by decide +kernel
theorem dX12_lock_26 : decode cX12_lock 26 = .ok (.aload_n 0, 1) := by decide +kernel
theorem dX12_lock_27 : decode cX12_lock 27 = .ok (.getfield 390, 3) := by decide +kernel
theorem dX12_lock_30 : decode cX12_lock 30 = .ok (.ifCond .ne 19, 3) := by decide +kernel
theorem dX12_lock_33 : decode cX12_lock 33 = .ok (.aload_n 0, 1) := by decide +kernel
theorem dX12_lock_34 : decode cX12_lock 34 = .ok (.getfield 13, 3) := by decide +kernel
theorem dX12_lock_37 : decode cX12_lock 37 = .ok (.aload_n 0, 1) := by decide +kernel
theorem dX12_lock_38 : decode cX12_lock 38 = .ok (.getfield 381, 3) := by decide +kernel
theorem dX12_lock_41 : decode cX12_lock 41 = .ok (.iaload, 1) := by decide +kernel
theorem dX12_lock_42 : decode cX12_lock 42 = .ok (.ifCond .eq 7, 3) := by decide +kernel
theorem dX12_lock_45 : decode cX12_lock 45 = .ok (.aload_n 0, 1) := by decide +kernel
theorem dX12_lock_46 : decode cX12_lock 46 = .ok (.invokevirtual 409, 3) := by decide +kernel
theorem dX12_lock_49 : decode cX12_lock 49 = .ok (.aload_n 0, 1) := by decide +kernel
theorem dX12_lock_50 : decode cX12_lock 50 = .ok (.getfield 381, 3) := by decide +kernel
theorem dX12_lock_53 : decode cX12_lock 53 = .ok (.istore_n 2, 1) := by decide +kernel
theorem dX12_lock_54 : decode cX12_lock 54 = .ok (.iload_n 2, 1) := by decide +kernel
theorem dX12_lock_55 : decode cX12_lock 55 = .ok (.bipush 60, 2) := by decide +kernel
theorem dX12_lock_57 : decode cX12_lock 57 = .ok (.if_icmp .le 15, 3) := by decide +kernel
theorem dX12_lock_60 : decode cX12_lock 60 = .ok (.aload_n 0, 1) := by decide +kernel
theorem dX12_lock_61 : decode cX12_lock 61 = .ok (.iconst 2, 1) := by decide +kernel
theorem dX12_lock_62 : decode cX12_lock 62 = .ok (.aload_n 0, 1) := by decide +kernel
theorem dX12_lock_63 : decode cX12_lock 63 = .ok (.getfield 21, 3) := by decide +kernel
theorem dX12_lock_66 : decode cX12_lock 66 = .ok (.bipush 60, 2) := by decide +kernel
theorem dX12_lock_68 : decode cX12_lock 68 = .ok (.iaload, 1) := by decide +kernel
theorem dX12_lock_69 : decode cX12_lock 69 = .ok (.invokevirtual 394, 3) := by decide +kernel
theorem dX12_lock_72 : decode cX12_lock 72 = .ok (.aload_n 0, 1) := by decide +kernel
theorem dX12_lock_73 : decode cX12_lock 73 = .ok (.getfield 384, 3) := by decide +kernel
theorem dX12_lock_76 : decode cX12_lock 76 = .ok (.ifCond .eq 11, 3) := by decide +kernel
theorem dX12_lock_79 : decode cX12_lock 79 = .ok (.bipush (-10), 2) := by decide +kernel
theorem dX12_lock_81 : decode cX12_lock 81 = .ok (.aload_n 0, 1) := by decide +kernel
theorem dX12_lock_82 : decode cX12_lock 82 = .ok (.getfield 387, 3) := by decide +kernel
theorem dX12_lock_85 : decode cX12_lock 85 = .ok (.isub, 1) := by decide +kernel
theorem dX12_lock_86 : decode cX12_lock 86 = .ok (.ireturn, 1) := by decide +kernel
theorem dX12_lock_87 : decode cX12_lock 87 = .ok (.aload_n 0, 1) := by decide +kernel
theorem dX12_lock_88 : decode cX12_lock 88 = .ok (.getfield 184, 3) := by decide +kernel
theorem dX12_lock_91 : decode cX12_lock 91 = .ok (.iload_n 1, 1) := by decide +kernel
theorem dX12_lock_92 : decode cX12_lock 92 = .ok (.iload_n 2, 1) := by decide +kernel
theorem dX12_lock_93 : decode cX12_lock 93 = .ok (.iastore, 1) := by decide +kernel
theorem dX12_lock_94 : decode cX12_lock 94 = .ok (.iconst 0, 1) := by decide +kernel
theorem dX12_lock_95 : decode cX12_lock 95 = .ok (.istore_n 3, 1) := by decide +kernel
theorem dX12_lock_96 : decode cX12_lock 96 = .ok (.iload_n 3, 1) := by decide +kernel
theorem dX12_lock_97 : decode cX12_lock 97 = .ok (.iload_n 2, 1) := by decide +kernel
theorem dX12_lock_98 : decode cX12_lock 98 = .ok (.if_icmp .ge 43, 3) := by decide +kernel
theorem dX12_lock_101 : decode cX12_lock 101 = .ok (.aload_n 0, 1) := by decide +kernel
theorem dX12_lock_102 : decode cX12_lock 102 = .ok (.getfield 187, 3) := by decide +kernel
theorem dX12_lock_105 : decode cX12_lock 105 = .ok (.bipush 61, 2) := by decide +kernel
theorem dX12_lock_107 : decode cX12_lock 107 = .ok (.iload_n 1, 1) := by decide +kernel
theorem dX12_lock_108 : decode cX12_lock 108 = .ok (.imul, 1) := by decide +kernel
theorem dX12_lock_109 : decode cX12_lock 109 = .ok (.iload_n 3, 1) := by decide +kernel
theorem dX12_lock_110 : decode cX12_lock 110 = .ok (.iadd, 1) := by decide +kernel
theorem dX12_lock_111 : decode cX12_lock 111 = .ok (.aload_n 0, 1) := by decide +kernel
theorem dX12_lock_112 : decode cX12_lock 112 = .ok (.getfield 13, 3) := by decide +kernel
theorem dX12_lock_115 : decode cX12_lock 115 = .ok (.iload_n 3, 1) := by decide +kernel
theorem dX12_lock_116 : decode cX12_lock 116 = .ok (.iaload, 1) := by decide +kernel
theorem dX12_lock_117 : decode cX12_lock 117 = .ok (.iastore, 1) := by decide +kernel
theorem dX12_lock_118 : decode cX12_lock 118 = .ok (.aload_n 0, 1) := by decide +kernel
theorem dX12_lock_119 : decode cX12_lock 119 = .ok (.getfield 190, 3) := by decide +kernel
theorem dX12_lock_122 : decode cX12_lock 122 = .ok (.bipush 61, 2) := by decide +kernel
theorem dX12_lock_124 : decode cX12_lock 124 = .ok (.iload_n 1, 1) := by decide +kernel
theorem dX12_lock_125 : decode cX12_lock 125 = .ok (.imul, 1) := by decide +kernel
theorem dX12_lock_126 : decode cX12_lock 126 = .ok (.iload_n 3, 1) := by decide +kernel
theorem dX12_lock_127 : decode cX12_lock 127 = .ok (.iadd, 1) := by decide +kernel
theorem dX12_lock_128 : decode cX12_lock 128 = .ok (.aload_n 0, 1) := by decide +kernel
theorem dX12_lock_129 : decode cX12_lock 129 = .ok (.getfield 17, 3) := by decide +kernel
theorem dX12_lock_132 : decode cX12_lock 132 = .ok (.iload_n 3, 1) := by decide +kernel
theorem dX12_lock_133 : decode cX12_lock 133 = .ok (.laload, 1) := by decide +kernel
theorem dX12_lock_134 : decode cX12_lock 134 = .ok (.lastore, 1) := by decide +kernel
theorem dX12_lock_135 : decode cX12_lock 135 = .ok (.iinc 3 1, 3) := by decide +kernel
theorem dX12_lock_138 : decode cX12_lock 138 = .ok (.goto (-42), 3) := by decide +kernel
theorem dX12_lock_141 : decode cX12_lock 141 = .ok (.iconst 0, 1) := by decide +kernel
theorem dX12_lock_142 : decode cX12_lock 142 = .ok (.ireturn, 1) := by decide +kernel
