theorem dX6_readCondition_0 : decode cX6_readCondition 0 = .ok (.aload_n 1, 1) := by decide +kernel
theorem dX6_readCondition_1 : decode cX6_readCondition 1 = .ok (.invokestatic 28, 3) := by decide +kernel
theorem dX6_readCondition_4 : decode cX6_readCondition 4 = .ok (.istore_n 3, 1) := by decide +kernel
theorem dX6_readCondition_5 : decode cX6_readCondition 5 = .ok (.iload_n 3, 1) := by decide +kernel
theorem dX6_readCondition_6 : decode cX6_readCondition 6 = .ok (.ifCond .ge 13, 3) := by decide +kernel
theorem dX6_readCondition_9 : decode cX6_readCondition 9 = .ok (.aload_n 1, 1) := by decide +kernel
theorem dX6_readCondition_10 : decode cX6_readCondition 10 = .ok (.iconst 1, 1) := by decide +kernel
theorem dX6_readCondition_11 : decode cX6_readCondition 11 = .ok (.aload_n 1, 1) := by decide +kernel
theorem dX6_readCondition_12 : decode cX6_readCondition 12 = .ok (.getfield 32, 3) := by decide +kernel
theorem dX6_readCondition_15 : decode cX6_readCondition 15 = .ok (.invokevirtual 35, 3) := by decide +kernel
theorem dX6_readCondition_18 : decode cX6_readCondition 18 = .ok (.return_, 1) := by decide +kernel
theorem dX6_readCondition_19 : decode cX6_readCondition 19 = .ok (.aload_n 1, 1) := by decide +kernel
theorem dX6_readCondition_20 : decode cX6_readCondition 20 = .ok (.invokevirtual 74, 3) := by decide +kernel
theorem dX6_readCondition_23 : decode cX6_readCondition 23 = .ok (.iload_n 3, 1) := by decide +kernel
theorem dX6_readCondition_24 : decode cX6_readCondition 24 = .ok (.ifCond .ne 28, 3) := by decide +kernel
theorem dX6_readCondition_27 : decode cX6_readCondition 27 = .ok (.aload_n 0, 1) := by decide +kernel
theorem dX6_readCondition_28 : decode cX6_readCondition 28 = .ok (.getfield 15, 3) := by decide +kernel
theorem dX6_readCondition_31 : decode cX6_readCondition 31 = .ok (.iload_n 2, 1) := by decide +kernel
theorem dX6_readCondition_32 : decode cX6_readCondition 32 = .ok (.aload_n 0, 1) := by decide +kernel
theorem dX6_readCondition_33 : decode cX6_readCondition 33 = .ok (.getfield 15, 3) := by decide +kernel
theorem dX6_readCondition_36 : decode cX6_readCondition 36 = .ok (.iload_n 2, 1) := by decide +kernel
theorem dX6_readCondition_37 : decode cX6_readCondition 37 = .ok (.iaload, 1) := by decide +kernel
theorem dX6_readCondition_38 : decode cX6_readCondition 38 = .ok (.aload_n 1, 1) := by decide +kernel
theorem dX6_readCondition_39 : decode cX6_readCondition 39 = .ok (.iconst 1, 1) := by decide +kernel
theorem dX6_readCondition_40 : decode cX6_readCondition 40 = .ok (.bipush 10, 2) := by decide +kernel
theorem dX6_readCondition_42 : decode cX6_readCondition 42 = .ok (.invokevirtual 77, 3) := by decide +kernel
theorem dX6_readCondition_45 : decode cX6_readCondition 45 = .ok (.invokestatic 81, 3) := by decide +kernel
theorem dX6_readCondition_48 : decode cX6_readCondition 48 = .ok (.iastore, 1) := by decide +kernel
theorem dX6_readCondition_49 : decode cX6_readCondition 49 = .ok (.goto 46, 3) := by decide +kernel
theorem dX6_readCondition_52 : decode cX6_readCondition 52 = .ok (.iload_n 3, 1) := by decide +kernel
theorem dX6_readCondition_53 : decode cX6_readCondition 53 = .ok (.iconst 1, 1) := by decide +kernel
theorem dX6_readCondition_54 : decode cX6_readCondition 54 = .ok (.if_icmp .ne 7, 3) := by decide +kernel
theorem dX6_readCondition_57 : decode cX6_readCondition 57 = .ok (.iconst 3, 1) := by decide +kernel
theorem dX6_readCondition_58 : decode cX6_readCondition 58 = .ok (.goto 15, 3) := by decide +kernel
theorem dX6_readCondition_61 : decode cX6_readCondition 61 = .ok (.iload_n 3, 1) := by decide +kernel
theorem dX6_readCondition_62 : decode cX6_readCondition 62 = .ok (.iconst 2, 1) := by decide +kernel
theorem dX6_readCondition_63 : decode cX6_readCondition 63 = .ok (.if_icmp .ne 8, 3) := by decide +kernel
theorem dX6_readCondition_66 : decode cX6_readCondition 66 = .ok (.bipush 6, 2) := by decide +kernel
theorem dX6_readCondition_68 : decode cX6_readCondition 68 = .ok (.goto 5, 3) := by decide +kernel
theorem dX6_readCondition_71 : decode cX6_readCondition 71 = .ok (.bipush 7, 2) := by decide +kernel
theorem dX6_readCondition_73 : decode cX6_readCondition 73 = .ok (.istore 4, 2) := by decide +kernel
theorem dX6_readCondition_75 : decode cX6_readCondition 75 = .ok (.aload_n 0, 1) := by decide +kernel
theorem dX6_readCondition_76 : decode cX6_readCondition 76 = .ok (.getfield 15, 3) := by decide +kernel
theorem dX6_readCondition_79 : decode cX6_readCondition 79 = .ok (.iload_n 2, 1) := by decide +kernel
theorem dX6_readCondition_80 : decode cX6_readCondition 80 = .ok (.iload_n 3, 1) := by decide +kernel
theorem dX6_readCondition_81 : decode cX6_readCondition 81 = .ok (.iadd, 1) := by decide +kernel
theorem dX6_readCondition_82 : decode cX6_readCondition 82 = .ok (.dup2, 1) := by decide +kernel
theorem dX6_readCondition_83 : decode cX6_readCondition 83 = .ok (.iaload, 1) := by decide +kernel
theorem dX6_readCondition_84 : decode cX6_readCondition 84 = .ok (.iconst 1, 1) := by decide +kernel
theorem dX6_readCondition_85 : decode cX6_readCondition 85 = .ok (.aload_n 1, 1) := by decide +kernel
theorem dX6_readCondition_86 : decode cX6_readCondition 86 = .ok (.iconst 0, 1) := by decide +kernel
theorem dX6_readCondition_87 : decode cX6_readCondition 87 = .ok (.iload 4, 2) := by decide +kernel
theorem dX6_readCondition_89 : decode cX6_readCondition 89 = .ok (.invokevirtual 77, 3) := by decide +kernel
theorem dX6_readCondition_92 : decode cX6_readCondition 92 = .ok (.ishl, 1) := by decide +kernel
theorem dX6_readCondition_93 : decode cX6_readCondition 93 = .ok (.iand, 1) := by decide +kernel
theorem dX6_readCondition_94 : decode cX6_readCondition 94 = .ok (.iastore, 1) := by decide +kernel
theorem dX6_readCondition_95 : decode cX6_readCondition 95 = .ok (.return_, 1) := by decide +kernel
theorem dX6_readChange_0 : decode cX6_readChange 0 = .ok (.aload_n 1, 1) := by decide +kernel
theorem dX6_readChange_1 : decode cX6_readChange 1 = .ok (.bipush 37, 2) := by decide +kernel
theorem dX6_readChange_3 : decode cX6_readChange 3 = .ok (.invokevirtual 86, 3) := by decide +kernel
theorem dX6_readChange_6 : decode cX6_readChange 6 = .ok (.ifCond .ne 30, 3) := by decide +kernel
theorem dX6_readChange_9 : decode cX6_readChange 9 = .ok (.aload_n 1, 1) := by decide +kernel
theorem dX6_readChange_10 : decode cX6_readChange 10 = .ok (.bipush 45, 2) := by decide +kernel
theorem dX6_readChange_12 : decode cX6_readChange 12 = .ok (.invokevirtual 86, 3) := by decide +kernel
theorem dX6_readChange_15 : decode cX6_readChange 15 = .ok (.ifCond .ne 21, 3) := by decide +kernel
theorem dX6_readChange_18 : decode cX6_readChange 18 = .ok (.aload_n 1, 1) := by decide +kernel
theorem dX6_readChange_19 : decode cX6_readChange 19 = .ok (.bipush 43, 2) := by decide +kernel
theorem dX6_readChange_21 : decode cX6_readChange 21 = .ok (.invokevirtual 86, 3) := by decide +kernel
theorem dX6_readChange_24 : decode cX6_readChange 24 = .ok (.ifCond .ne 12, 3) := by decide +kernel
theorem dX6_readChange_27 : decode cX6_readChange 27 = .ok (.aload_n 1, 1) := by decide +kernel
theorem dX6_readChange_28 : decode cX6_readChange 28 = .ok (.bipush 64, 2) := by decide +kernel
theorem dX6_readChange_30 : decode cX6_readChange 30 = .ok (.invokevirtual 86, 3) := by decide +kernel
theorem dX6_readChange_33 : decode cX6_readChange 33 = .ok (.ifCond .eq 7, 3) := by decide +kernel
theorem dX6_readChange_36 : decode cX6_readChange 36 = .ok (.iconst 1, 1) := by decide +kernel
theorem dX6_readChange_37 : decode cX6_readChange 37 = .ok (.goto 4, 3) := by decide +kernel
theorem dX6_readChange_40 : decode cX6_readChange 40 = .ok (.iconst 0, 1) := by decide +kernel
theorem dX6_readChange_41 : decode cX6_readChange 41 = .ok (.istore_n 3, 1) := by decide +kernel
theorem dX6_readChange_42 : decode cX6_readChange 42 = .ok (.iload_n 3, 1) := by decide +kernel
theorem dX6_readChange_43 : decode cX6_readChange 43 = .ok (.ifCond .ne 13, 3) := by decide +kernel
theorem dX6_readChange_46 : decode cX6_readChange 46 = .ok (.aload_n 1, 1) := by decide +kernel
theorem dX6_readChange_47 : decode cX6_readChange 47 = .ok (.iconst 1, 1) := by decide +kernel
theorem dX6_readChange_48 : decode cX6_readChange 48 = .ok (.aload_n 1, 1) := by decide +kernel
theorem dX6_readChange_49 : decode cX6_readChange 49 = .ok (.getfield 32, 3) := by decide +kernel
theorem dX6_readChange_52 : decode cX6_readChange 52 = .ok (.invokevirtual 35, 3) := by decide +kernel
theorem dX6_readChange_55 : decode cX6_readChange 55 = .ok (.return_, 1) := by decide +kernel
theorem dX6_readChange_56 : decode cX6_readChange 56 = .ok (.aload_n 1, 1) := by decide +kernel
theorem dX6_readChange_57 : decode cX6_readChange 57 = .ok (.getfield 89, 3) := by decide +kernel
theorem dX6_readChange_60 : decode cX6_readChange 60 = .ok (.istore 4, 2) := by decide +kernel
theorem dX6_readChange_62 : decode cX6_readChange 62 = .ok (.aload_n 1, 1) := by decide +kernel
theorem dX6_readChange_63 : decode cX6_readChange 63 = .ok (.invokevirtual 74, 3) := by decide +kernel
theorem dX6_readChange_66 : decode cX6_readChange 66 = .ok (.aload_n 0, 1) := by decide +kernel
theorem dX6_readChange_67 : decode cX6_readChange 67 = .ok (.getfield 15, 3) := by decide +kernel
theorem dX6_readChange_70 : decode cX6_readChange 70 = .ok (.iload_n 2, 1) := by decide +kernel
theorem dX6_readChange_71 : decode cX6_readChange 71 = .ok (.iconst 4, 1) := by decide +kernel
theorem dX6_readChange_72 : decode cX6_readChange 72 = .ok (.iadd, 1) := by decide +kernel
theorem dX6_readChange_73 : decode cX6_readChange 73 = .ok (.iload 4, 2) := by decide +kernel
theorem dX6_readChange_75 : decode cX6_readChange 75 = .ok (.iastore, 1) := by decide +kernel
theorem dX6_readChange_76 : decode cX6_readChange 76 = .ok (.aload_n 0, 1) := by decide +kernel
theorem dX6_readChange_77 : decode cX6_readChange 77 = .ok (.getfield 15, 3) := by decide +kernel
theorem dX6_readChange_80 : decode cX6_readChange 80 = .ok (.iload_n 2, 1) := by decide +kernel
theorem dX6_readChange_81 : decode cX6_readChange 81 = .ok (.iconst 5, 1) := by decide +kernel
theorem dX6_readChange_82 : decode cX6_readChange 82 = .ok (.iadd, 1) := by decide +kernel
theorem dX6_readChange_83 : decode cX6_readChange 83 = .ok (.aload_n 1, 1) := by decide +kernel
theorem dX6_readChange_84 : decode cX6_readChange 84 = .ok (.iconst 0, 1) := by decide +kernel
theorem dX6_readChange_85 : decode cX6_readChange 85 = .ok (.iload 4, 2) := by decide +kernel
theorem dX6_readChange_87 : decode cX6_readChange 87 = .ok (.bipush 37, 2) := by decide +kernel
theorem dX6_readChange_89 : decode cX6_readChange 89 = .ok (.if_icmp .ne 9, 3) := by decide +kernel
theorem dX6_readChange_92 : decode cX6_readChange 92 = .ok (.sipush 200, 3) := by decide +kernel
theorem dX6_readChange_95 : decode cX6_readChange 95 = .ok (.goto 5, 3) := by decide +kernel
theorem dX6_readChange_98 : decode cX6_readChange 98 = .ok (.ldc 92, 2) := by decide +kernel
theorem dX6_readChange_100 : decode cX6_readChange 100 = .ok (.invokevirtual 77, 3) := by decide +kernel
theorem dX6_readChange_103 : decode cX6_readChange 103 = .ok (.iastore, 1) := by decide +kernel
theorem dX6_readChange_104 : decode cX6_readChange 104 = .ok (.return_, 1) := by decide +kernel
theorem dX6_priceOf_0 : decode cX6_priceOf 0 = .ok (.ldc 93, 2) := by decide +kernel
theorem dX6_priceOf_2 : decode cX6_priceOf 2 = .ok (.iload_n 2, 1) := by decide +kernel
theorem dX6_priceOf_3 : decode cX6_priceOf 3 = .ok (.iload 5, 2) := by decide +kernel
theorem dX6_priceOf_5 : decode cX6_priceOf 5 = .ok (.imul, 1) := by decide +kernel
theorem dX6_priceOf_6 : decode cX6_priceOf 6 = .ok (.invokestatic 94, 3) := by decide +kernel
theorem dX6_priceOf_9 : decode cX6_priceOf 9 = .ok (.istore 6, 2) := by decide +kernel
theorem dX6_priceOf_11 : decode cX6_priceOf 11 = .ok (.iconst 0, 1) := by decide +kernel
theorem dX6_priceOf_12 : decode cX6_priceOf 12 = .ok (.istore 7, 2) := by decide +kernel
theorem dX6_priceOf_14 : decode cX6_priceOf 14 = .ok (.iload 7, 2) := by decide +kernel
theorem dX6_priceOf_16 : decode cX6_priceOf 16 = .ok (.aload_n 0, 1) := by decide +kernel
theorem dX6_priceOf_17 : decode cX6_priceOf 17 = .ok (.getfield 46, 3) := by decide +kernel
theorem dX6_priceOf_20 : decode cX6_priceOf 20 = .ok (.if_icmp .ge 126, 3) := by decide +kernel
theorem dX6_priceOf_23 : decode cX6_priceOf 23 = .ok (.iload 7, 2) := by decide +kernel
theorem dX6_priceOf_25 : decode cX6_priceOf 25 = .ok (.bipush 20, 2) := by decide +kernel
theorem dX6_priceOf_27 : decode cX6_priceOf 27 = .ok (.if_icmp .ge 119, 3) := by decide +kernel
theorem dX6_priceOf_30 : decode cX6_priceOf 30 = .ok (.iload 7, 2) := by decide +kernel
theorem dX6_priceOf_32 : decode cX6_priceOf 32 = .ok (.bipush 6, 2) := by decide +kernel
theorem dX6_priceOf_34 : decode cX6_priceOf 34 = .ok (.imul, 1) := by decide +kernel
theorem dX6_priceOf_35 : decode cX6_priceOf 35 = .ok (.istore 8, 2) := by decide +kernel
theorem dX6_priceOf_37 : decode cX6_priceOf 37 = .ok (.iload_n 2, 1) := by decide +kernel
theorem dX6_priceOf_38 : decode cX6_priceOf 38 = .ok (.aload_n 0, 1) := by decide +kernel
theorem dX6_priceOf_39 : decode cX6_priceOf 39 = .ok (.getfield 11, 3) := by decide +kernel
theorem dX6_priceOf_42 : decode cX6_priceOf 42 = .ok (.iload 8, 2) := by decide +kernel
theorem dX6_priceOf_44 : decode cX6_priceOf 44 = .ok (.iaload, 1) := by decide +kernel
theorem dX6_priceOf_45 : decode cX6_priceOf 45 = .ok (.if_icmp .lt 56, 3) := by decide +kernel
theorem dX6_priceOf_48 : decode cX6_priceOf 48 = .ok (.aload_n 0, 1) := by decide +kernel
theorem dX6_priceOf_49 : decode cX6_priceOf 49 = .ok (.getfield 11, 3) := by decide +kernel
theorem dX6_priceOf_52 : decode cX6_priceOf 52 = .ok (.iload 8, 2) := by decide +kernel
theorem dX6_priceOf_54 : decode cX6_priceOf 54 = .ok (.iconst 1, 1) := by decide +kernel
theorem dX6_priceOf_55 : decode cX6_priceOf 55 = .ok (.iadd, 1) := by decide +kernel
theorem dX6_priceOf_56 : decode cX6_priceOf 56 = .ok (.iaload, 1) := by decide +kernel
theorem dX6_priceOf_57 : decode cX6_priceOf 57 = .ok (.iload_n 3, 1) := by decide +kernel
theorem dX6_priceOf_58 : decode cX6_priceOf 58 = .ok (.ishr, 1) := by decide +kernel
theorem dX6_priceOf_59 : decode cX6_priceOf 59 = .ok (.iconst 1, 1) := by decide +kernel
theorem dX6_priceOf_60 : decode cX6_priceOf 60 = .ok (.iand, 1) := by decide +kernel
theorem dX6_priceOf_61 : decode cX6_priceOf 61 = .ok (.ifCond .eq 40, 3) := by decide +kernel
theorem dX6_priceOf_64 : decode cX6_priceOf 64 = .ok (.aload_n 0, 1) := by decide +kernel
theorem dX6_priceOf_65 : decode cX6_priceOf 65 = .ok (.getfield 11, 3) := by decide +kernel
theorem dX6_priceOf_68 : decode cX6_priceOf 68 = .ok (.iload 8, 2) := by decide +kernel
theorem dX6_priceOf_70 : decode cX6_priceOf 70 = .ok (.iconst 2, 1) := by decide +kernel
theorem dX6_priceOf_71 : decode cX6_priceOf 71 = .ok (.iadd, 1) := by decide +kernel
theorem dX6_priceOf_72 : decode cX6_priceOf 72 = .ok (.iaload, 1) := by decide +kernel
theorem dX6_priceOf_73 : decode cX6_priceOf 73 = .ok (.iload 4, 2) := by decide +kernel
theorem dX6_priceOf_75 : decode cX6_priceOf 75 = .ok (.ishr, 1) := by decide +kernel
theorem dX6_priceOf_76 : decode cX6_priceOf 76 = .ok (.iconst 1, 1) := by decide +kernel
theorem dX6_priceOf_77 : decode cX6_priceOf 77 = .ok (.iand, 1) := by decide +kernel
theorem dX6_priceOf_78 : decode cX6_priceOf 78 = .ok (.ifCond .eq 23, 3) := by decide +kernel
theorem dX6_priceOf_81 : decode cX6_priceOf 81 = .ok (.aload_n 0, 1) := by decide +kernel
theorem dX6_priceOf_82 : decode cX6_priceOf 82 = .ok (.getfield 11, 3) := by decide +kernel
theorem dX6_priceOf_85 : decode cX6_priceOf 85 = .ok (.iload 8, 2) := by decide +kernel
theorem dX6_priceOf_87 : decode cX6_priceOf 87 = .ok (.iconst 3, 1) := by decide +kernel
theorem dX6_priceOf_88 : decode cX6_priceOf 88 = .ok (.iadd, 1) := by decide +kernel
theorem dX6_priceOf_89 : decode cX6_priceOf 89 = .ok (.iaload, 1) := by decide +kernel
theorem dX6_priceOf_90 : decode cX6_priceOf 90 = .ok (.iload_n 1, 1) := by decide +kernel
theorem dX6_priceOf_91 : decode cX6_priceOf 91 = .ok (.ishr, 1) := by decide +kernel
theorem dX6_priceOf_92 : decode cX6_priceOf 92 = .ok (.iconst 1, 1) := by decide +kernel
theorem dX6_priceOf_93 : decode cX6_priceOf 93 = .ok (.iand, 1) := by decide +kernel
theorem dX6_priceOf_94 : decode cX6_priceOf 94 = .ok (.ifCond .eq 7, 3) := by decide +kernel
theorem dX6_priceOf_97 : decode cX6_priceOf 97 = .ok (.iconst 1, 1) := by decide +kernel
theorem dX6_priceOf_98 : decode cX6_priceOf 98 = .ok (.goto 4, 3) := by decide +kernel
theorem dX6_priceOf_101 : decode cX6_priceOf 101 = .ok (.iconst 0, 1) := by decide +kernel
theorem dX6_priceOf_102 : decode cX6_priceOf 102 = .ok (.istore 9, 2) := by decide +kernel
theorem dX6_priceOf_104 : decode cX6_priceOf 104 = .ok (.iload 9, 2) := by decide +kernel
theorem dX6_priceOf_106 : decode cX6_priceOf 106 = .ok (.ifCond .eq 34, 3) := by decide +kernel
theorem dX6_priceOf_109 : decode cX6_priceOf 109 = .ok (.ldc 93, 2) := by decide +kernel
theorem dX6_priceOf_111 : decode cX6_priceOf 111 = .ok (.iload 6, 2) := by decide +kernel
theorem dX6_priceOf_113 : decode cX6_priceOf 113 = .ok (.aload_n 0, 1) := by decide +kernel
theorem dX6_priceOf_114 : decode cX6_priceOf 114 = .ok (.getfield 11, 3) := by decide +kernel
theorem dX6_priceOf_117 : decode cX6_priceOf 117 = .ok (.iload 8, 2) := by decide +kernel
theorem dX6_priceOf_119 : decode cX6_priceOf 119 = .ok (.iconst 4, 1) := by decide +kernel
theorem dX6_priceOf_120 : decode cX6_priceOf 120 = .ok (.iadd, 1) := by decide +kernel
theorem dX6_priceOf_121 : decode cX6_priceOf 121 = .ok (.iaload, 1) := by decide +kernel
theorem dX6_priceOf_122 : decode cX6_priceOf 122 = .ok (.aload_n 0, 1) := by decide +kernel
theorem dX6_priceOf_123 : decode cX6_priceOf 123 = .ok (.getfield 11, 3) := by decide +kernel
theorem dX6_priceOf_126 : decode cX6_priceOf 126 = .ok (.iload 8, 2) := by decide +kernel
theorem dX6_priceOf_128 : decode cX6_priceOf 128 = .ok (.iconst 5, 1) := by decide +kernel
theorem dX6_priceOf_129 : decode cX6_priceOf 129 = .ok (.iadd, 1) := by decide +kernel
theorem dX6_priceOf_130 : decode cX6_priceOf 130 = .ok (.iaload, 1) := by decide +kernel
theorem dX6_priceOf_131 : decode cX6_priceOf 131 = .ok (.iload_n 2, 1) := by decide +kernel
theorem dX6_priceOf_132 : decode cX6_priceOf 132 = .ok (.invokestatic 97, 3) := by decide +kernel
theorem dX6_priceOf_135 : decode cX6_priceOf 135 = .ok (.invokestatic 94, 3) := by decide +kernel
theorem dX6_priceOf_138 : decode cX6_priceOf 138 = .ok (.istore 6, 2) := by decide +kernel
theorem dX6_priceOf_140 : decode cX6_priceOf 140 = .ok (.iinc 7 1, 3) := by decide +kernel
theorem dX6_priceOf_143 : decode cX6_priceOf 143 = .ok (.goto (-129), 3) := by decide +kernel
theorem dX6_priceOf_146 : decode cX6_priceOf 146 = .ok (.iload 6, 2) := by decide +kernel
theorem dX6_priceOf_148 : decode cX6_priceOf 148 = .ok (.ireturn, 1) := by decide +kernel
theorem dX6_changed_0 : decode cX6_changed 0 = .ok (.iload_n 1, 1) := by decide +kernel
theorem dX6_changed_1 : decode cX6_changed 1 = .ok (.lookupswitch 60 #[(37, 35), (43, 56), (45, 48)], 35) := by decide +kernel
theorem dX6_changed_36 : decode cX6_changed 36 = .ok (.iconst 2, 1) := by decide +kernel
theorem dX6_changed_37 : decode cX6_changed 37 = .ok (.iload_n 0, 1) := by decide +kernel
theorem dX6_changed_38 : decode cX6_changed 38 = .ok (.imul, 1) := by decide +kernel
theorem dX6_changed_39 : decode cX6_changed 39 = .ok (.iload_n 2, 1) := by decide +kernel
theorem dX6_changed_40 : decode cX6_changed 40 = .ok (.imul, 1) := by decide +kernel
theorem dX6_changed_41 : decode cX6_changed 41 = .ok (.bipush 100, 2) := by decide +kernel
theorem dX6_changed_43 : decode cX6_changed 43 = .ok (.iadd, 1) := by decide +kernel
theorem dX6_changed_44 : decode cX6_changed 44 = .ok (.sipush 200, 3) := by decide +kernel
theorem dX6_changed_47 : decode cX6_changed 47 = .ok (.idiv, 1) := by decide +kernel
theorem dX6_changed_48 : decode cX6_changed 48 = .ok (.ireturn, 1) := by decide +kernel
theorem dX6_changed_49 : decode cX6_changed 49 = .ok (.iconst 0, 1) := by decide +kernel
theorem dX6_changed_50 : decode cX6_changed 50 = .ok (.iload_n 0, 1) := by decide +kernel
theorem dX6_changed_51 : decode cX6_changed 51 = .ok (.iload_n 2, 1) := by decide +kernel
theorem dX6_changed_52 : decode cX6_changed 52 = .ok (.isub, 1) := by decide +kernel
theorem dX6_changed_53 : decode cX6_changed 53 = .ok (.invokestatic 81, 3) := by decide +kernel
theorem dX6_changed_56 : decode cX6_changed 56 = .ok (.ireturn, 1) := by decide +kernel
theorem dX6_changed_57 : decode cX6_changed 57 = .ok (.iload_n 0, 1) := by decide +kernel
theorem dX6_changed_58 : decode cX6_changed 58 = .ok (.iload_n 2, 1) := by decide +kernel
theorem dX6_changed_59 : decode cX6_changed 59 = .ok (.iadd, 1) := by decide +kernel
theorem dX6_changed_60 : decode cX6_changed 60 = .ok (.ireturn, 1) := by decide +kernel
theorem dX6_changed_61 : decode cX6_changed 61 = .ok (.iload_n 2, 1) := by decide +kernel
theorem dX6_changed_62 : decode cX6_changed 62 = .ok (.iload_n 3, 1) := by decide +kernel
theorem dX6_changed_63 : decode cX6_changed 63 = .ok (.imul, 1) := by decide +kernel
theorem dX6_changed_64 : decode cX6_changed 64 = .ok (.ireturn, 1) := by decide +kernel
theorem dX7_init_0 : decode cX7_init 0 = .ok (.aload_n 0, 1) := by decide +kernel
theorem dX7_init_1 : decode cX7_init 1 = .ok (.invokespecial 3, 3) := by decide +kernel
theorem dX7_init_4 : decode cX7_init 4 = .ok (.aload_n 0, 1) := by decide +kernel
theorem dX7_init_5 : decode cX7_init 5 = .ok (.bipush 8, 2) := by decide +kernel
theorem dX7_init_7 : decode cX7_init 7 = .ok (.anewarray 9, 3) := by decide +kernel
theorem dX7_init_10 : decode cX7_init 10 = .ok (.putfield 11, 3) := by decide +kernel
theorem dX7_init_13 : decode cX7_init 13 = .ok (.aload_n 0, 1) := by decide +kernel
theorem dX7_init_14 : decode cX7_init 14 = .ok (.bipush 16, 2) := by decide +kernel
theorem dX7_init_16 : decode cX7_init 16 = .ok (.newarray .boolean, 2) := by decide +kernel
theorem dX7_init_18 : decode cX7_init 18 = .ok (.putfield 17, 3) := by decide +kernel
theorem dX7_init_21 : decode cX7_init 21 = .ok (.aload_n 0, 1) := by decide +kernel
theorem dX7_init_22 : decode cX7_init 22 = .ok (.bipush 60, 2) := by decide +kernel
theorem dX7_init_24 : decode cX7_init 24 = .ok (.newarray .int, 2) := by decide +kernel
theorem dX7_init_26 : decode cX7_init 26 = .ok (.putfield 21, 3) := by decide +kernel
theorem dX7_init_29 : decode cX7_init 29 = .ok (.iconst 0, 1) := by decide +kernel
theorem dX7_init_30 : decode cX7_init 30 = .ok (.istore_n 1, 1) := by decide +kernel
theorem dX7_init_31 : decode cX7_init 31 = .ok (.iload_n 1, 1) := by decide +kernel
theorem dX7_init_32 : decode cX7_init 32 = .ok (.bipush 8, 2) := by decide +kernel
theorem dX7_init_34 : decode cX7_init 34 = .ok (.if_icmp .ge 22, 3) := by decide +kernel
theorem dX7_init_37 : decode cX7_init 37 = .ok (.aload_n 0, 1) := by decide +kernel
theorem dX7_init_38 : decode cX7_init 38 = .ok (.getfield 11, 3) := by decide +kernel
theorem dX7_init_41 : decode cX7_init 41 = .ok (.iload_n 1, 1) := by decide +kernel
theorem dX7_init_42 : decode cX7_init 42 = .ok (.new 9, 3) := by decide +kernel
theorem dX7_init_45 : decode cX7_init 45 = .ok (.dup, 1) := by decide +kernel
theorem dX7_init_46 : decode cX7_init 46 = .ok (.invokespecial 25, 3) := by decide +kernel
theorem dX7_init_49 : decode cX7_init 49 = .ok (.aastore, 1) := by decide +kernel
theorem dX7_init_50 : decode cX7_init 50 = .ok (.iinc 1 1, 3) := by decide +kernel
theorem dX7_init_53 : decode cX7_init 53 = .ok (.goto (-22), 3) := by decide +kernel
theorem dX7_init_56 : decode cX7_init 56 = .ok (.return_, 1) := by decide +kernel
theorem dX7_halt_0 : decode cX7_halt 0 = .ok (.aload_n 0, 1) := by decide +kernel
theorem dX7_halt_1 : decode cX7_halt 1 = .ok (.iload_n 1, 1) := by decide +kernel
theorem dX7_halt_2 : decode cX7_halt 2 = .ok (.putfield 26, 3) := by decide +kernel
theorem dX7_halt_5 : decode cX7_halt 5 = .ok (.iconst 0, 1) := by decide +kernel
theorem dX7_halt_6 : decode cX7_halt 6 = .ok (.istore_n 2, 1) := by decide +kernel
theorem dX7_halt_7 : decode cX7_halt 7 = .ok (.iload_n 2, 1) := by decide +kernel
theorem dX7_halt_8 : decode cX7_halt 8 = .ok (.bipush 8, 2) := by decide +kernel
theorem dX7_halt_10 : decode cX7_halt 10 = .ok (.if_icmp .ge 23, 3) := by decide +kernel
theorem dX7_halt_13 : decode cX7_halt 13 = .ok (.iload_n 1, 1) := by decide +kernel
theorem dX7_halt_14 : decode cX7_halt 14 = .ok (.ifCond .eq 19, 3) := by decide +kernel
theorem dX7_halt_17 : decode cX7_halt 17 = .ok (.aload_n 0, 1) := by decide +kernel
theorem dX7_halt_18 : decode cX7_halt 18 = .ok (.getfield 11, 3) := by decide +kernel
theorem dX7_halt_21 : decode cX7_halt 21 = .ok (.iload_n 2, 1) := by decide +kernel
theorem dX7_halt_22 : decode cX7_halt 22 = .ok (.aaload, 1) := by decide +kernel
theorem dX7_halt_23 : decode cX7_halt 23 = .ok (.iconst (-1), 1) := by decide +kernel
theorem dX7_halt_24 : decode cX7_halt 24 = .ok (.putfield 30, 3) := by decide +kernel
theorem dX7_halt_27 : decode cX7_halt 27 = .ok (.iinc 2 1, 3) := by decide +kernel
theorem dX7_halt_30 : decode cX7_halt 30 = .ok (.goto (-23), 3) := by decide +kernel
theorem dX7_halt_33 : decode cX7_halt 33 = .ok (.return_, 1) := by decide +kernel
theorem dX7_send_0 : decode cX7_send 0 = .ok (.iload_n 1, 1) := by decide +kernel
theorem dX7_send_1 : decode cX7_send 1 = .ok (.ifCond .lt 9, 3) := by decide +kernel
theorem dX7_send_4 : decode cX7_send 4 = .ok (.iload_n 1, 1) := by decide +kernel
theorem dX7_send_5 : decode cX7_send 5 = .ok (.bipush 7, 2) := by decide +kernel
theorem dX7_send_7 : decode cX7_send 7 = .ok (.if_icmp .le 5, 3) := by decide +kernel
theorem dX7_send_10 : decode cX7_send 10 = .ok (.iconst 0, 1) := by decide +kernel
theorem dX7_send_11 : decode cX7_send 11 = .ok (.ireturn, 1) := by decide +kernel
theorem dX7_send_12 : decode cX7_send 12 = .ok (.aload_n 0, 1) := by decide +kernel
theorem dX7_send_13 : decode cX7_send 13 = .ok (.getfield 11, 3) := by decide +kernel
theorem dX7_send_16 : decode cX7_send 16 = .ok (.iload_n 1, 1) := by decide +kernel
theorem dX7_send_17 : decode cX7_send 17 = .ok (.aaload, 1) := by decide +kernel
theorem dX7_send_18 : decode cX7_send 18 = .ok (.astore_n 3, 1) := by decide +kernel
theorem dX7_send_19 : decode cX7_send 19 = .ok (.aload_n 3, 1) := by decide +kernel
theorem dX7_send_20 : decode cX7_send 20 = .ok (.getfield 34, 3) := by decide +kernel
theorem dX7_send_23 : decode cX7_send 23 = .ok (.ifCond .eq 47, 3) := by decide +kernel
theorem dX7_send_26 : decode cX7_send 26 = .ok (.iload_n 2, 1) := by decide +kernel
theorem dX7_send_27 : decode cX7_send 27 = .ok (.aload_n 3, 1) := by decide +kernel
theorem dX7_send_28 : decode cX7_send 28 = .ok (.getfield 37, 3) := by decide +kernel
theorem dX7_send_31 : decode cX7_send 31 = .ok (.if_icmp .lt 39, 3) := by decide +kernel
theorem dX7_send_34 : decode cX7_send 34 = .ok (.iload_n 2, 1) := by decide +kernel
theorem dX7_send_35 : decode cX7_send 35 = .ok (.aload_n 3, 1) := by decide +kernel
theorem dX7_send_36 : decode cX7_send 36 = .ok (.getfield 40, 3) := by decide +kernel
theorem dX7_send_39 : decode cX7_send 39 = .ok (.if_icmp .gt 31, 3) := by decide +kernel
theorem dX7_send_42 : decode cX7_send 42 = .ok (.aload_n 3, 1) := by decide +kernel
theorem dX7_send_43 : decode cX7_send 43 = .ok (.getfield 43, 3) := by decide +kernel
theorem dX7_send_46 : decode cX7_send 46 = .ok (.iconst 1, 1) := by decide +kernel
theorem dX7_send_47 : decode cX7_send 47 = .ok (.iand, 1) := by decide +kernel
theorem dX7_send_48 : decode cX7_send 48 = .ok (.ifCond .ne 22, 3) := by decide +kernel
theorem dX7_send_51 : decode cX7_send 51 = .ok (.aload_n 0, 1) := by decide +kernel
theorem dX7_send_52 : decode cX7_send 52 = .ok (.getfield 26, 3) := by decide +kernel
theorem dX7_send_55 : decode cX7_send 55 = .ok (.ifCond .ne 15, 3) := by decide +kernel
theorem dX7_send_58 : decode cX7_send 58 = .ok (.aload_n 0, 1) := by decide +kernel
theorem dX7_send_59 : decode cX7_send 59 = .ok (.iload_n 1, 1) := by decide +kernel
theorem dX7_send_60 : decode cX7_send 60 = .ok (.invokevirtual 46, 3) := by decide +kernel
theorem dX7_send_63 : decode cX7_send 63 = .ok (.ifCond .eq 7, 3) := by decide +kernel
theorem dX7_send_66 : decode cX7_send 66 = .ok (.iconst 1, 1) := by decide +kernel
theorem dX7_send_67 : decode cX7_send 67 = .ok (.goto 4, 3) := by decide +kernel
theorem dX7_send_70 : decode cX7_send 70 = .ok (.iconst 0, 1) := by decide +kernel
theorem dX7_send_71 : decode cX7_send 71 = .ok (.istore 4, 2) := by decide +kernel
theorem dX7_send_73 : decode cX7_send 73 = .ok (.iload 4, 2) := by decide +kernel
theorem dX7_send_75 : decode cX7_send 75 = .ok (.ifCond .eq 11, 3) := by decide +kernel
theorem dX7_send_78 : decode cX7_send 78 = .ok (.aload_n 3, 1) := by decide +kernel
theorem dX7_send_79 : decode cX7_send 79 = .ok (.iload_n 2, 1) := by decide +kernel
theorem dX7_send_80 : decode cX7_send 80 = .ok (.putfield 30, 3) := by decide +kernel
theorem dX7_send_83 : decode cX7_send 83 = .ok (.goto 13, 3) := by decide +kernel
theorem dX7_send_86 : decode cX7_send 86 = .ok (.aload_n 3, 1) := by decide +kernel
theorem dX7_send_87 : decode cX7_send 87 = .ok (.dup, 1) := by decide +kernel
theorem dX7_send_88 : decode cX7_send 88 = .ok (.getfield 50, 3) := by decide +kernel
theorem dX7_send_91 : decode cX7_send 91 = .ok (.iconst 1, 1) := by decide +kernel
theorem dX7_send_92 : decode cX7_send 92 = .ok (.iadd, 1) := by decide +kernel
theorem dX7_send_93 : decode cX7_send 93 = .ok (.putfield 50, 3) := by decide +kernel
theorem dX7_send_96 : decode cX7_send 96 = .ok (.iload 4, 2) := by decide +kernel
theorem dX7_send_98 : decode cX7_send 98 = .ok (.ireturn, 1) := by decide +kernel
theorem dX7_refusals_0 : decode cX7_refusals 0 = .ok (.iconst 0, 1) := by decide +kernel
theorem dX7_refusals_1 : decode cX7_refusals 1 = .ok (.istore_n 1, 1) := by decide +kernel
theorem dX7_refusals_2 : decode cX7_refusals 2 = .ok (.iconst 0, 1) := by decide +kernel
theorem dX7_refusals_3 : decode cX7_refusals 3 = .ok (.istore_n 2, 1) := by decide +kernel
theorem dX7_refusals_4 : decode cX7_refusals 4 = .ok (.iload_n 2, 1) := by decide +kernel
theorem dX7_refusals_5 : decode cX7_refusals 5 = .ok (.bipush 8, 2) := by decide +kernel
theorem dX7_refusals_7 : decode cX7_refusals 7 = .ok (.if_icmp .ge 21, 3) := by decide +kernel
theorem dX7_refusals_10 : decode cX7_refusals 10 = .ok (.iload_n 1, 1) := by decide +kernel
theorem dX7_refusals_11 : decode cX7_refusals 11 = .ok (.aload_n 0, 1) := by decide +kernel
theorem dX7_refusals_12 : decode cX7_refusals 12 = .ok (.getfield 11, 3) := by decide +kernel
theorem dX7_refusals_15 : decode cX7_refusals 15 = .ok (.iload_n 2, 1) := by decide +kernel
theorem dX7_refusals_16 : decode cX7_refusals 16 = .ok (.aaload, 1) := by decide +kernel
theorem dX7_refusals_17 : decode cX7_refusals 17 = .ok (.getfield 50, 3) := by decide +kernel
theorem dX7_refusals_20 : decode cX7_refusals 20 = .ok (.iadd, 1) := by decide +kernel
theorem dX7_refusals_21 : decode cX7_refusals 21 = .ok (.istore_n 1, 1) := by decide +kernel
theorem dX7_refusals_22 : decode cX7_refusals 22 = .ok (.iinc 2 1, 3) := by decide +kernel
theorem dX7_refusals_25 : decode cX7_refusals 25 = .ok (.goto (-21), 3) := by decide +kernel
theorem dX7_refusals_28 : decode cX7_refusals 28 = .ok (.iload_n 1, 1) := by decide +kernel
theorem dX7_refusals_29 : decode cX7_refusals 29 = .ok (.ireturn, 1) := by decide +kernel
theorem dX7_step_0 : decode cX7_step 0 = .ok (.iconst 0, 1) := by decide +kernel
theorem dX7_step_1 : decode cX7_step 1 = .ok (.istore_n 1, 1) := by decide +kernel
theorem dX7_step_2 : decode cX7_step 2 = .ok (.iload_n 1, 1) := by decide +kernel
theorem dX7_step_3 : decode cX7_step 3 = .ok (.bipush 8, 2) := by decide +kernel
theorem dX7_step_5 : decode cX7_step 5 = .ok (.if_icmp .ge 40, 3) := by decide +kernel
theorem dX7_step_8 : decode cX7_step 8 = .ok (.aload_n 0, 1) := by decide +kernel
theorem dX7_step_9 : decode cX7_step 9 = .ok (.getfield 11, 3) := by decide +kernel
theorem dX7_step_12 : decode cX7_step 12 = .ok (.iload_n 1, 1) := by decide +kernel
theorem dX7_step_13 : decode cX7_step 13 = .ok (.aaload, 1) := by decide +kernel
theorem dX7_step_14 : decode cX7_step 14 = .ok (.getfield 30, 3) := by decide +kernel
theorem dX7_step_17 : decode cX7_step 17 = .ok (.iconst (-1), 1) := by decide +kernel
theorem dX7_step_18 : decode cX7_step 18 = .ok (.if_icmp .eq 21, 3) := by decide +kernel
theorem dX7_step_21 : decode cX7_step 21 = .ok (.aload_n 0, 1) := by decide +kernel
theorem dX7_step_22 : decode cX7_step 22 = .ok (.iload_n 1, 1) := by decide +kernel
theorem dX7_step_23 : decode cX7_step 23 = .ok (.invokevirtual 46, 3) := by decide +kernel
theorem dX7_step_26 : decode cX7_step 26 = .ok (.ifCond .ne 13, 3) := by decide +kernel
theorem dX7_step_29 : decode cX7_step 29 = .ok (.aload_n 0, 1) := by decide +kernel
theorem dX7_step_30 : decode cX7_step 30 = .ok (.getfield 11, 3) := by decide +kernel
theorem dX7_step_33 : decode cX7_step 33 = .ok (.iload_n 1, 1) := by decide +kernel
theorem dX7_step_34 : decode cX7_step 34 = .ok (.aaload, 1) := by decide +kernel
theorem dX7_step_35 : decode cX7_step 35 = .ok (.iconst (-1), 1) := by decide +kernel
theorem dX7_step_36 : decode cX7_step 36 = .ok (.putfield 30, 3) := by decide +kernel
theorem dX7_step_39 : decode cX7_step 39 = .ok (.iinc 1 1, 3) := by decide +kernel
theorem dX7_step_42 : decode cX7_step 42 = .ok (.goto (-40), 3) := by decide +kernel
theorem dX7_step_45 : decode cX7_step 45 = .ok (.iconst 0, 1) := by decide +kernel
theorem dX7_step_46 : decode cX7_step 46 = .ok (.istore_n 1, 1) := by decide +kernel
theorem dX7_step_47 : decode cX7_step 47 = .ok (.iload_n 1, 1) := by decide +kernel
theorem dX7_step_48 : decode cX7_step 48 = .ok (.bipush 8, 2) := by decide +kernel
theorem dX7_step_50 : decode cX7_step 50 = .ok (.if_icmp .ge 39, 3) := by decide +kernel
theorem dX7_step_53 : decode cX7_step 53 = .ok (.aload_n 0, 1) := by decide +kernel
theorem dX7_step_54 : decode cX7_step 54 = .ok (.getfield 11, 3) := by decide +kernel
theorem dX7_step_57 : decode cX7_step 57 = .ok (.iload_n 1, 1) := by decide +kernel
theorem dX7_step_58 : decode cX7_step 58 = .ok (.aaload, 1) := by decide +kernel
theorem dX7_step_59 : decode cX7_step 59 = .ok (.getfield 34, 3) := by decide +kernel
theorem dX7_step_62 : decode cX7_step 62 = .ok (.ifCond .eq 21, 3) := by decide +kernel
theorem dX7_step_65 : decode cX7_step 65 = .ok (.aload_n 0, 1) := by decide +kernel
theorem dX7_step_66 : decode cX7_step 66 = .ok (.getfield 11, 3) := by decide +kernel
theorem dX7_step_69 : decode cX7_step 69 = .ok (.iload_n 1, 1) := by decide +kernel
theorem dX7_step_70 : decode cX7_step 70 = .ok (.aaload, 1) := by decide +kernel
theorem dX7_step_71 : decode cX7_step 71 = .ok (.invokevirtual 53, 3) := by decide +kernel
theorem dX7_step_74 : decode cX7_step 74 = .ok (.aload_n 0, 1) := by decide +kernel
theorem dX7_step_75 : decode cX7_step 75 = .ok (.getfield 11, 3) := by decide +kernel
theorem dX7_step_78 : decode cX7_step 78 = .ok (.iload_n 1, 1) := by decide +kernel
theorem dX7_step_79 : decode cX7_step 79 = .ok (.aaload, 1) := by decide +kernel
theorem dX7_step_80 : decode cX7_step 80 = .ok (.invokevirtual 56, 3) := by decide +kernel
theorem dX7_step_83 : decode cX7_step 83 = .ok (.iinc 1 1, 3) := by decide +kernel
theorem dX7_step_86 : decode cX7_step 86 = .ok (.goto (-39), 3) := by decide +kernel
theorem dX7_step_89 : decode cX7_step 89 = .ok (.return_, 1) := by decide +kernel
theorem dX7_lockTrue_0 : decode cX7_lockTrue 0 = .ok (.aload_n 0, 1) := by decide +kernel
theorem dX7_lockTrue_1 : decode cX7_lockTrue 1 = .ok (.getfield 11, 3) := by decide +kernel
theorem dX7_lockTrue_4 : decode cX7_lockTrue 4 = .ok (.iload_n 1, 1) := by decide +kernel
theorem dX7_lockTrue_5 : decode cX7_lockTrue 5 = .ok (.aaload, 1) := by decide +kernel
theorem dX7_lockTrue_6 : decode cX7_lockTrue 6 = .ok (.astore_n 2, 1) := by decide +kernel
theorem dX7_lockTrue_7 : decode cX7_lockTrue 7 = .ok (.aload_n 2, 1) := by decide +kernel
theorem dX7_lockTrue_8 : decode cX7_lockTrue 8 = .ok (.getfield 59, 3) := by decide +kernel
theorem dX7_lockTrue_11 : decode cX7_lockTrue 11 = .ok (.ifCond .ne 5, 3) := by decide +kernel
theorem dX7_lockTrue_14 : decode cX7_lockTrue 14 = .ok (.iconst 1, 1) := by decide +kernel
theorem dX7_lockTrue_15 : decode cX7_lockTrue 15 = .ok (.ireturn, 1) := by decide +kernel
theorem dX7_lockTrue_16 : decode cX7_lockTrue 16 = .ok (.lconst 0, 1) := by decide +kernel
theorem dX7_lockTrue_17 : decode cX7_lockTrue 17 = .ok (.lstore_n 3, 1) := by decide +kernel
theorem dX7_lockTrue_18 : decode cX7_lockTrue 18 = .ok (.iconst 0, 1) := by decide +kernel
theorem dX7_lockTrue_19 : decode cX7_lockTrue 19 = .ok (.istore 5, 2) := by decide +kernel
theorem dX7_lockTrue_21 : decode cX7_lockTrue 21 = .ok (.iload 5, 2) := by decide +kernel
theorem dX7_lockTrue_23 : decode cX7_lockTrue 23 = .ok (.aload_n 2, 1) := by decide +kernel
theorem dX7_lockTrue_24 : decode cX7_lockTrue 24 = .ok (.getfield 59, 3) := by decide +kernel
theorem dX7_lockTrue_27 : decode cX7_lockTrue 27 = .ok (.if_icmp .ge 113, 3) := by decide +kernel
theorem dX7_lockTrue_30 : decode cX7_lockTrue 30 = .ok (.iload 5, 2) := by decide +kernel
theorem dX7_lockTrue_32 : decode cX7_lockTrue 32 = .ok (.bipush 60, 2) := by decide +kernel
theorem dX7_lockTrue_34 : decode cX7_lockTrue 34 = .ok (.if_icmp .ge 106, 3) := by decide +kernel
theorem dX7_lockTrue_37 : decode cX7_lockTrue 37 = .ok (.aload_n 2, 1) := by decide +kernel
theorem dX7_lockTrue_38 : decode cX7_lockTrue 38 = .ok (.getfield 62, 3) := by decide +kernel
theorem dX7_lockTrue_41 : decode cX7_lockTrue 41 = .ok (.iload 5, 2) := by decide +kernel
theorem dX7_lockTrue_43 : decode cX7_lockTrue 43 = .ok (.iaload, 1) := by decide +kernel
theorem dX7_lockTrue_44 : decode cX7_lockTrue 44 = .ok (.istore 6, 2) := by decide +kernel
theorem dX7_lockTrue_46 : decode cX7_lockTrue 46 = .ok (.lload_n 3, 1) := by decide +kernel
theorem dX7_lockTrue_47 : decode cX7_lockTrue 47 = .ok (.lconst 1, 1) := by decide +kernel
theorem dX7_lockTrue_48 : decode cX7_lockTrue 48 = .ok (.land, 1) := by decide +kernel
theorem dX7_lockTrue_49 : decode cX7_lockTrue 49 = .ok (.lstore 7, 2) := by decide +kernel
theorem dX7_lockTrue_51 : decode cX7_lockTrue 51 = .ok (.iload 6, 2) := by decide +kernel
theorem dX7_lockTrue_53 : decode cX7_lockTrue 53 = .ok (.bipush 7, 2) := by decide +kernel
theorem dX7_lockTrue_55 : decode cX7_lockTrue 55 = .ok (.iand, 1) := by decide +kernel
theorem dX7_lockTrue_56 : decode cX7_lockTrue 56 = .ok (.tableswitch 59 0 2 #[28, 35, 49], 28) := by decide +kernel
theorem dX7_lockTrue_84 : decode cX7_lockTrue 84 = .ok (.lload_n 3, 1) := by decide +kernel
theorem dX7_lockTrue_85 : decode cX7_lockTrue 85 = .ok (.lconst 1, 1) := by decide +kernel
theorem dX7_lockTrue_86 : decode cX7_lockTrue 86 = .ok (.lxor, 1) := by decide +kernel
theorem dX7_lockTrue_87 : decode cX7_lockTrue 87 = .ok (.lstore_n 3, 1) := by decide +kernel
theorem dX7_lockTrue_88 : decode cX7_lockTrue 88 = .ok (.goto 46, 3) := by decide +kernel
theorem dX7_lockTrue_91 : decode cX7_lockTrue 91 = .ok (.lload_n 3, 1) := by decide +kernel
theorem dX7_lockTrue_92 : decode cX7_lockTrue 92 = .ok (.iconst 1, 1) := by decide +kernel
theorem dX7_lockTrue_93 : decode cX7_lockTrue 93 = .ok (.lushr, 1) := by decide +kernel
theorem dX7_lockTrue_94 : decode cX7_lockTrue 94 = .ok (.lload 7, 2) := by decide +kernel
theorem dX7_lockTrue_96 : decode cX7_lockTrue 96 = .ok (.ldc2_w 65, 3) := by decide +kernel
theorem dX7_lockTrue_99 : decode cX7_lockTrue 99 = .ok (.lor, 1) := by decide +kernel
theorem dX7_lockTrue_100 : decode cX7_lockTrue 100 = .ok (.land, 1) := by decide +kernel
theorem dX7_lockTrue_101 : decode cX7_lockTrue 101 = .ok (.lstore_n 3, 1) := by decide +kernel
theorem dX7_lockTrue_102 : decode cX7_lockTrue 102 = .ok (.goto 32, 3) := by decide +kernel
theorem dX7_lockTrue_105 : decode cX7_lockTrue 105 = .ok (.lload_n 3, 1) := by decide +kernel
theorem dX7_lockTrue_106 : decode cX7_lockTrue 106 = .ok (.iconst 1, 1) := by decide +kernel
theorem dX7_lockTrue_107 : decode cX7_lockTrue 107 = .ok (.lushr, 1) := by decide +kernel
theorem dX7_lockTrue_108 : decode cX7_lockTrue 108 = .ok (.lload 7, 2) := by decide +kernel
theorem dX7_lockTrue_110 : decode cX7_lockTrue 110 = .ok (.lor, 1) := by decide +kernel
theorem dX7_lockTrue_111 : decode cX7_lockTrue 111 = .ok (.lstore_n 3, 1) := by decide +kernel
theorem dX7_lockTrue_112 : decode cX7_lockTrue 112 = .ok (.goto 22, 3) := by decide +kernel
theorem dX7_lockTrue_115 : decode cX7_lockTrue 115 = .ok (.lload_n 3, 1) := by decide +kernel
theorem dX7_lockTrue_116 : decode cX7_lockTrue 116 = .ok (.iconst 1, 1) := by decide +kernel
theorem dX7_lockTrue_117 : decode cX7_lockTrue 117 = .ok (.lshl, 1) := by decide +kernel
theorem dX7_lockTrue_118 : decode cX7_lockTrue 118 = .ok (.aload_n 0, 1) := by decide +kernel
theorem dX7_lockTrue_119 : decode cX7_lockTrue 119 = .ok (.iload 6, 2) := by decide +kernel
theorem dX7_lockTrue_121 : decode cX7_lockTrue 121 = .ok (.invokevirtual 67, 3) := by decide +kernel
theorem dX7_lockTrue_124 : decode cX7_lockTrue 124 = .ok (.ifCond .eq 7, 3) := by decide +kernel
theorem dX7_lockTrue_127 : decode cX7_lockTrue 127 = .ok (.lconst 1, 1) := by decide +kernel
theorem dX7_lockTrue_128 : decode cX7_lockTrue 128 = .ok (.goto 4, 3) := by decide +kernel
theorem dX7_lockTrue_131 : decode cX7_lockTrue 131 = .ok (.lconst 0, 1) := by decide +kernel
theorem dX7_lockTrue_132 : decode cX7_lockTrue 132 = .ok (.lor, 1) := by decide +kernel
theorem dX7_lockTrue_133 : decode cX7_lockTrue 133 = .ok (.lstore_n 3, 1) := by decide +kernel
theorem dX7_lockTrue_134 : decode cX7_lockTrue 134 = .ok (.iinc 5 1, 3) := by decide +kernel
theorem dX7_lockTrue_137 : decode cX7_lockTrue 137 = .ok (.goto (-116), 3) := by decide +kernel
theorem dX7_lockTrue_140 : decode cX7_lockTrue 140 = .ok (.lload_n 3, 1) := by decide +kernel
theorem dX7_lockTrue_141 : decode cX7_lockTrue 141 = .ok (.lconst 1, 1) := by decide +kernel
theorem dX7_lockTrue_142 : decode cX7_lockTrue 142 = .ok (.land, 1) := by decide +kernel
theorem dX7_lockTrue_143 : decode cX7_lockTrue 143 = .ok (.lconst 0, 1) := by decide +kernel
theorem dX7_lockTrue_144 : decode cX7_lockTrue 144 = .ok (.lcmp, 1) := by decide +kernel
theorem dX7_lockTrue_145 : decode cX7_lockTrue 145 = .ok (.ifCond .eq 7, 3) := by decide +kernel
theorem dX7_lockTrue_148 : decode cX7_lockTrue 148 = .ok (.iconst 1, 1) := by decide +kernel
theorem dX7_lockTrue_149 : decode cX7_lockTrue 149 = .ok (.goto 4, 3) := by decide +kernel
theorem dX7_lockTrue_152 : decode cX7_lockTrue 152 = .ok (.iconst 0, 1) := by decide +kernel
theorem dX7_lockTrue_153 : decode cX7_lockTrue 153 = .ok (.ireturn, 1) := by decide +kernel
theorem dX7_termTrue_0 : decode cX7_termTrue 0 = .ok (.iload_n 1, 1) := by decide +kernel
theorem dX7_termTrue_1 : decode cX7_termTrue 1 = .ok (.iconst 3, 1) := by decide +kernel
theorem dX7_termTrue_2 : decode cX7_termTrue 2 = .ok (.ishr, 1) := by decide +kernel
theorem dX7_termTrue_3 : decode cX7_termTrue 3 = .ok (.bipush 15, 2) := by decide +kernel
theorem dX7_termTrue_5 : decode cX7_termTrue 5 = .ok (.iand, 1) := by decide +kernel
theorem dX7_termTrue_6 : decode cX7_termTrue 6 = .ok (.istore_n 2, 1) := by decide +kernel
theorem dX7_termTrue_7 : decode cX7_termTrue 7 = .ok (.iload_n 1, 1) := by decide +kernel
theorem dX7_termTrue_8 : decode cX7_termTrue 8 = .ok (.bipush 7, 2) := by decide +kernel
theorem dX7_termTrue_10 : decode cX7_termTrue 10 = .ok (.iand, 1) := by decide +kernel
theorem dX7_termTrue_11 : decode cX7_termTrue 11 = .ok (.istore_n 3, 1) := by decide +kernel
theorem dX7_termTrue_12 : decode cX7_termTrue 12 = .ok (.iload_n 3, 1) := by decide +kernel
theorem dX7_termTrue_13 : decode cX7_termTrue 13 = .ok (.bipush 6, 2) := by decide +kernel
theorem dX7_termTrue_15 : decode cX7_termTrue 15 = .ok (.if_icmp .ne 10, 3) := by decide +kernel
theorem dX7_termTrue_18 : decode cX7_termTrue 18 = .ok (.aload_n 0, 1) := by decide +kernel
theorem dX7_termTrue_19 : decode cX7_termTrue 19 = .ok (.getfield 17, 3) := by decide +kernel
theorem dX7_termTrue_22 : decode cX7_termTrue 22 = .ok (.iload_n 2, 1) := by decide +kernel
theorem dX7_termTrue_23 : decode cX7_termTrue 23 = .ok (.baload, 1) := by decide +kernel
theorem dX7_termTrue_24 : decode cX7_termTrue 24 = .ok (.ireturn, 1) := by decide +kernel
theorem dX7_termTrue_25 : decode cX7_termTrue 25 = .ok (.aload_n 0, 1) := by decide +kernel
theorem dX7_termTrue_26 : decode cX7_termTrue 26 = .ok (.getfield 11, 3) := by decide +kernel
theorem dX7_termTrue_29 : decode cX7_termTrue 29 = .ok (.iload_n 2, 1) := by decide +kernel
theorem dX7_termTrue_30 : decode cX7_termTrue 30 = .ok (.bipush 7, 2) := by decide +kernel
theorem dX7_termTrue_32 : decode cX7_termTrue 32 = .ok (.iand, 1) := by decide +kernel
theorem dX7_termTrue_33 : decode cX7_termTrue 33 = .ok (.aaload, 1) := by decide +kernel
theorem dX7_termTrue_34 : decode cX7_termTrue 34 = .ok (.astore 4, 2) := by decide +kernel
theorem dX7_termTrue_36 : decode cX7_termTrue 36 = .ok (.iload_n 3, 1) := by decide +kernel
theorem dX7_termTrue_37 : decode cX7_termTrue 37 = .ok (.iconst 5, 1) := by decide +kernel
theorem dX7_termTrue_38 : decode cX7_termTrue 38 = .ok (.if_icmp .ne 30, 3) := by decide +kernel
theorem dX7_termTrue_41 : decode cX7_termTrue 41 = .ok (.aload 4, 2) := by decide +kernel
theorem dX7_termTrue_43 : decode cX7_termTrue 43 = .ok (.getfield 34, 3) := by decide +kernel
theorem dX7_termTrue_46 : decode cX7_termTrue 46 = .ok (.ifCond .eq 16, 3) := by decide +kernel
theorem dX7_termTrue_49 : decode cX7_termTrue 49 = .ok (.aload 4, 2) := by decide +kernel
theorem dX7_termTrue_51 : decode cX7_termTrue 51 = .ok (.getfield 70, 3) := by decide +kernel
theorem dX7_termTrue_54 : decode cX7_termTrue 54 = .ok (.aload 4, 2) := by decide +kernel
theorem dX7_termTrue_56 : decode cX7_termTrue 56 = .ok (.getfield 73, 3) := by decide +kernel
theorem dX7_termTrue_59 : decode cX7_termTrue 59 = .ok (.if_icmp .ne 7, 3) := by decide +kernel
theorem dX7_termTrue_62 : decode cX7_termTrue 62 = .ok (.iconst 1, 1) := by decide +kernel
theorem dX7_termTrue_63 : decode cX7_termTrue 63 = .ok (.goto 4, 3) := by decide +kernel
theorem dX7_termTrue_66 : decode cX7_termTrue 66 = .ok (.iconst 0, 1) := by decide +kernel
theorem dX7_termTrue_67 : decode cX7_termTrue 67 = .ok (.ireturn, 1) := by decide +kernel
theorem dX7_termTrue_68 : decode cX7_termTrue 68 = .ok (.iload_n 1, 1) := by decide +kernel
theorem dX7_termTrue_69 : decode cX7_termTrue 69 = .ok (.bipush 7, 2) := by decide +kernel
theorem dX7_termTrue_71 : decode cX7_termTrue 71 = .ok (.ishr, 1) := by decide +kernel
theorem dX7_termTrue_72 : decode cX7_termTrue 72 = .ok (.istore 5, 2) := by decide +kernel
theorem dX7_termTrue_74 : decode cX7_termTrue 74 = .ok (.aload 4, 2) := by decide +kernel
theorem dX7_termTrue_76 : decode cX7_termTrue 76 = .ok (.getfield 34, 3) := by decide +kernel
theorem dX7_termTrue_79 : decode cX7_termTrue 79 = .ok (.ifCond .eq 35, 3) := by decide +kernel
theorem dX7_termTrue_82 : decode cX7_termTrue 82 = .ok (.iload_n 3, 1) := by decide +kernel
theorem dX7_termTrue_83 : decode cX7_termTrue 83 = .ok (.iconst 3, 1) := by decide +kernel
theorem dX7_termTrue_84 : decode cX7_termTrue 84 = .ok (.if_icmp .ne 16, 3) := by decide +kernel
theorem dX7_termTrue_87 : decode cX7_termTrue 87 = .ok (.aload 4, 2) := by decide +kernel
theorem dX7_termTrue_89 : decode cX7_termTrue 89 = .ok (.getfield 70, 3) := by decide +kernel
theorem dX7_termTrue_92 : decode cX7_termTrue 92 = .ok (.iload 5, 2) := by decide +kernel
theorem dX7_termTrue_94 : decode cX7_termTrue 94 = .ok (.if_icmp .ge 20, 3) := by decide +kernel
theorem dX7_termTrue_97 : decode cX7_termTrue 97 = .ok (.goto 13, 3) := by decide +kernel
theorem dX7_termTrue_100 : decode cX7_termTrue 100 = .ok (.aload 4, 2) := by decide +kernel
theorem dX7_termTrue_102 : decode cX7_termTrue 102 = .ok (.getfield 70, 3) := by decide +kernel
theorem dX7_termTrue_105 : decode cX7_termTrue 105 = .ok (.iload 5, 2) := by decide +kernel
theorem dX7_termTrue_107 : decode cX7_termTrue 107 = .ok (.if_icmp .le 7, 3) := by decide +kernel
theorem dX7_termTrue_110 : decode cX7_termTrue 110 = .ok (.iconst 1, 1) := by decide +kernel
theorem dX7_termTrue_111 : decode cX7_termTrue 111 = .ok (.goto 4, 3) := by decide +kernel
theorem dX7_termTrue_114 : decode cX7_termTrue 114 = .ok (.iconst 0, 1) := by decide +kernel
theorem dX7_termTrue_115 : decode cX7_termTrue 115 = .ok (.ireturn, 1) := by decide +kernel
theorem dX7_readLock_0 : decode cX7_readLock 0 = .ok (.aload_n 0, 1) := by decide +kernel
theorem dX7_readLock_1 : decode cX7_readLock 1 = .ok (.iconst 0, 1) := by decide +kernel
theorem dX7_readLock_2 : decode cX7_readLock 2 = .ok (.putfield 76, 3) := by decide +kernel
theorem dX7_readLock_5 : decode cX7_readLock 5 = .ok (.aload_n 1, 1) := by decide +kernel
theorem dX7_readLock_6 : decode cX7_readLock 6 = .ok (.bipush 60, 2) := by decide +kernel
theorem dX7_readLock_8 : decode cX7_readLock 8 = .ok (.invokevirtual 79, 3) := by decide +kernel
theorem dX7_readLock_11 : decode cX7_readLock 11 = .ok (.aload_n 0, 1) := by decide +kernel
theorem dX7_readLock_12 : decode cX7_readLock 12 = .ok (.aload_n 1, 1) := by decide +kernel
theorem dX7_readLock_13 : decode cX7_readLock 13 = .ok (.iconst 0, 1) := by decide +kernel
theorem dX7_readLock_14 : decode cX7_readLock 14 = .ok (.invokevirtual 85, 3) := by decide +kernel
theorem dX7_readLock_17 : decode cX7_readLock 17 = .ok (.aload_n 1, 1) := by decide +kernel
theorem dX7_readLock_18 : decode cX7_readLock 18 = .ok (.getfield 89, 3) := by decide +kernel
theorem dX7_readLock_21 : decode cX7_readLock 21 = .ok (.ifCond .eq 12, 3) := by decide +kernel
theorem dX7_readLock_24 : decode cX7_readLock 24 = .ok (.aload_n 1, 1) := by decide +kernel
theorem dX7_readLock_25 : decode cX7_readLock 25 = .ok (.iconst 1, 1) := by decide +kernel
theorem dX7_readLock_26 : decode cX7_readLock 26 = .ok (.aload_n 1, 1) := by decide +kernel
theorem dX7_readLock_27 : decode cX7_readLock 27 = .ok (.getfield 92, 3) := by decide +kernel
theorem dX7_readLock_30 : decode cX7_readLock 30 = .ok (.invokevirtual 95, 3) := by decide +kernel
theorem dX7_readLock_33 : decode cX7_readLock 33 = .ok (.aload_n 1, 1) := by decide +kernel
theorem dX7_readLock_34 : decode cX7_readLock 34 = .ok (.getfield 99, 3) := by decide +kernel
theorem dX7_readLock_37 : decode cX7_readLock 37 = .ok (.ifCond .ne 38, 3) := by decide +kernel
theorem dX7_readLock_40 : decode cX7_readLock 40 = .ok (.aload_n 0, 1) := by decide +kernel
theorem dX7_readLock_41 : decode cX7_readLock 41 = .ok (.getfield 11, 3) := by decide +kernel
theorem dX7_readLock_44 : decode cX7_readLock 44 = .ok (.iload_n 2, 1) := by decide +kernel
theorem dX7_readLock_45 : decode cX7_readLock 45 = .ok (.aaload, 1) := by decide +kernel
theorem dX7_readLock_46 : decode cX7_readLock 46 = .ok (.astore_n 3, 1) := by decide +kernel
theorem dX7_readLock_47 : decode cX7_readLock 47 = .ok (.aload_n 3, 1) := by decide +kernel
theorem dX7_readLock_48 : decode cX7_readLock 48 = .ok (.getfield 62, 3) := by decide +kernel
theorem dX7_readLock_51 : decode cX7_readLock 51 = .ok (.astore 4, 2) := by decide +kernel
theorem dX7_readLock_53 : decode cX7_readLock 53 = .ok (.aload_n 3, 1) := by decide +kernel
theorem dX7_readLock_54 : decode cX7_readLock 54 = .ok (.aload_n 0, 1) := by decide +kernel
theorem dX7_readLock_55 : decode cX7_readLock 55 = .ok (.getfield 21, 3) := by decide +kernel
theorem dX7_readLock_58 : decode cX7_readLock 58 = .ok (.putfield 62, 3) := by decide +kernel
theorem dX7_readLock_61 : decode cX7_readLock 61 = .ok (.aload_n 3, 1) := by decide +kernel
theorem dX7_readLock_62 : decode cX7_readLock 62 = .ok (.aload_n 0, 1) := by decide +kernel
theorem dX7_readLock_63 : decode cX7_readLock 63 = .ok (.getfield 76, 3) := by decide +kernel
theorem dX7_readLock_66 : decode cX7_readLock 66 = .ok (.putfield 59, 3) := by decide +kernel
theorem dX7_readLock_69 : decode cX7_readLock 69 = .ok (.aload_n 0, 1) := by decide +kernel
theorem dX7_readLock_70 : decode cX7_readLock 70 = .ok (.aload 4, 2) := by decide +kernel
theorem dX7_readLock_72 : decode cX7_readLock 72 = .ok (.putfield 21, 3) := by decide +kernel
theorem dX7_readLock_75 : decode cX7_readLock 75 = .ok (.return_, 1) := by decide +kernel
theorem dX7_readOr_0 : decode cX7_readOr 0 = .ok (.iconst 0, 1) := by decide +kernel
theorem dX7_readOr_1 : decode cX7_readOr 1 = .ok (.istore_n 3, 1) := by decide +kernel
theorem dX7_readOr_2 : decode cX7_readOr 2 = .ok (.aload_n 0, 1) := by decide +kernel
theorem dX7_readOr_3 : decode cX7_readOr 3 = .ok (.aload_n 1, 1) := by decide +kernel
theorem dX7_readOr_4 : decode cX7_readOr 4 = .ok (.iload_n 2, 1) := by decide +kernel
theorem dX7_readOr_5 : decode cX7_readOr 5 = .ok (.invokevirtual 102, 3) := by decide +kernel
theorem dX7_readOr_8 : decode cX7_readOr 8 = .ok (.iconst 0, 1) := by decide +kernel
theorem dX7_readOr_9 : decode cX7_readOr 9 = .ok (.istore 4, 2) := by decide +kernel
theorem dX7_readOr_11 : decode cX7_readOr 11 = .ok (.iload 4, 2) := by decide +kernel
theorem dX7_readOr_13 : decode cX7_readOr 13 = .ok (.bipush 60, 2) := by decide +kernel
theorem dX7_readOr_15 : decode cX7_readOr 15 = .ok (.if_icmp .ge 65, 3) := by decide +kernel
theorem dX7_readOr_18 : decode cX7_readOr 18 = .ok (.aload_n 1, 1) := by decide +kernel
theorem dX7_readOr_19 : decode cX7_readOr 19 = .ok (.bipush 38, 2) := by decide +kernel
theorem dX7_readOr_21 : decode cX7_readOr 21 = .ok (.invokevirtual 105, 3) := by decide +kernel
theorem dX7_readOr_24 : decode cX7_readOr 24 = .ok (.ifCond .eq 19, 3) := by decide +kernel
theorem dX7_readOr_27 : decode cX7_readOr 27 = .ok (.aload_n 0, 1) := by decide +kernel
theorem dX7_readOr_28 : decode cX7_readOr 28 = .ok (.aload_n 1, 1) := by decide +kernel
theorem dX7_readOr_29 : decode cX7_readOr 29 = .ok (.iload_n 2, 1) := by decide +kernel
theorem dX7_readOr_30 : decode cX7_readOr 30 = .ok (.invokevirtual 102, 3) := by decide +kernel
theorem dX7_readOr_33 : decode cX7_readOr 33 = .ok (.aload_n 0, 1) := by decide +kernel
theorem dX7_readOr_34 : decode cX7_readOr 34 = .ok (.iconst 1, 1) := by decide +kernel
theorem dX7_readOr_35 : decode cX7_readOr 35 = .ok (.iconst 0, 1) := by decide +kernel
theorem dX7_readOr_36 : decode cX7_readOr 36 = .ok (.iconst 0, 1) := by decide +kernel
theorem dX7_readOr_37 : decode cX7_readOr 37 = .ok (.invokevirtual 109, 3) := by decide +kernel
theorem dX7_readOr_40 : decode cX7_readOr 40 = .ok (.goto 34, 3) := by decide +kernel
theorem dX7_readOr_43 : decode cX7_readOr 43 = .ok (.iload_n 3, 1) := by decide +kernel
theorem dX7_readOr_44 : decode cX7_readOr 44 = .ok (.ifCond .eq 10, 3) := by decide +kernel
theorem dX7_readOr_47 : decode cX7_readOr 47 = .ok (.aload_n 0, 1) := by decide +kernel
theorem dX7_readOr_48 : decode cX7_readOr 48 = .ok (.iconst 2, 1) := by decide +kernel
theorem dX7_readOr_49 : decode cX7_readOr 49 = .ok (.iconst 0, 1) := by decide +kernel
theorem dX7_readOr_50 : decode cX7_readOr 50 = .ok (.iconst 0, 1) := by decide +kernel
theorem dX7_readOr_51 : decode cX7_readOr 51 = .ok (.invokevirtual 109, 3) := by decide +kernel
theorem dX7_readOr_54 : decode cX7_readOr 54 = .ok (.aload_n 1, 1) := by decide +kernel
theorem dX7_readOr_55 : decode cX7_readOr 55 = .ok (.bipush 124, 2) := by decide +kernel
theorem dX7_readOr_57 : decode cX7_readOr 57 = .ok (.invokevirtual 105, 3) := by decide +kernel
theorem dX7_readOr_60 : decode cX7_readOr 60 = .ok (.istore_n 3, 1) := by decide +kernel
theorem dX7_readOr_61 : decode cX7_readOr 61 = .ok (.iload_n 3, 1) := by decide +kernel
theorem dX7_readOr_62 : decode cX7_readOr 62 = .ok (.ifCond .ne 6, 3) := by decide +kernel
theorem dX7_readOr_65 : decode cX7_readOr 65 = .ok (.goto 15, 3) := by decide +kernel
theorem dX7_readOr_68 : decode cX7_readOr 68 = .ok (.aload_n 0, 1) := by decide +kernel
theorem dX7_readOr_69 : decode cX7_readOr 69 = .ok (.aload_n 1, 1) := by decide +kernel
theorem dX7_readOr_70 : decode cX7_readOr 70 = .ok (.iload_n 2, 1) := by decide +kernel
theorem dX7_readOr_71 : decode cX7_readOr 71 = .ok (.invokevirtual 102, 3) := by decide +kernel
theorem dX7_readOr_74 : decode cX7_readOr 74 = .ok (.iinc 4 1, 3) := by decide +kernel
theorem dX7_readOr_77 : decode cX7_readOr 77 = .ok (.goto (-66), 3) := by decide +kernel
theorem dX7_readOr_80 : decode cX7_readOr 80 = .ok (.return_, 1) := by decide +kernel
theorem dX7_readNot_0 : decode cX7_readNot 0 = .ok (.aload_n 1, 1) := by decide +kernel
theorem dX7_readNot_1 : decode cX7_readNot 1 = .ok (.bipush 33, 2) := by decide +kernel
theorem dX7_readNot_3 : decode cX7_readNot 3 = .ok (.invokevirtual 113, 3) := by decide +kernel
theorem dX7_readNot_6 : decode cX7_readNot 6 = .ok (.ifCond .ne 18, 3) := by decide +kernel
theorem dX7_readNot_9 : decode cX7_readNot 9 = .ok (.aload_n 1, 1) := by decide +kernel
theorem dX7_readNot_10 : decode cX7_readNot 10 = .ok (.bipush 40, 2) := by decide +kernel
theorem dX7_readNot_12 : decode cX7_readNot 12 = .ok (.invokevirtual 113, 3) := by decide +kernel
theorem dX7_readNot_15 : decode cX7_readNot 15 = .ok (.ifCond .ne 9, 3) := by decide +kernel
theorem dX7_readNot_18 : decode cX7_readNot 18 = .ok (.aload_n 0, 1) := by decide +kernel
theorem dX7_readNot_19 : decode cX7_readNot 19 = .ok (.aload_n 1, 1) := by decide +kernel
theorem dX7_readNot_20 : decode cX7_readNot 20 = .ok (.invokevirtual 116, 3) := by decide +kernel
theorem dX7_readNot_23 : decode cX7_readNot 23 = .ok (.return_, 1) := by decide +kernel
theorem dX7_readNot_24 : decode cX7_readNot 24 = .ok (.iload_n 2, 1) := by decide +kernel
theorem dX7_readNot_25 : decode cX7_readNot 25 = .ok (.bipush 12, 2) := by decide +kernel
theorem dX7_readNot_27 : decode cX7_readNot 27 = .ok (.if_icmp .lt 13, 3) := by decide +kernel
theorem dX7_readNot_30 : decode cX7_readNot 30 = .ok (.aload_n 1, 1) := by decide +kernel
theorem dX7_readNot_31 : decode cX7_readNot 31 = .ok (.iconst 2, 1) := by decide +kernel
theorem dX7_readNot_32 : decode cX7_readNot 32 = .ok (.aload_n 1, 1) := by decide +kernel
theorem dX7_readNot_33 : decode cX7_readNot 33 = .ok (.getfield 92, 3) := by decide +kernel
theorem dX7_readNot_36 : decode cX7_readNot 36 = .ok (.invokevirtual 95, 3) := by decide +kernel
theorem dX7_readNot_39 : decode cX7_readNot 39 = .ok (.return_, 1) := by decide +kernel
theorem dX7_readNot_40 : decode cX7_readNot 40 = .ok (.aload_n 1, 1) := by decide +kernel
theorem dX7_readNot_41 : decode cX7_readNot 41 = .ok (.bipush 33, 2) := by decide +kernel
theorem dX7_readNot_43 : decode cX7_readNot 43 = .ok (.invokevirtual 105, 3) := by decide +kernel
theorem dX7_readNot_46 : decode cX7_readNot 46 = .ok (.ifCond .eq 21, 3) := by decide +kernel
theorem dX7_readNot_49 : decode cX7_readNot 49 = .ok (.aload_n 0, 1) := by decide +kernel
theorem dX7_readNot_50 : decode cX7_readNot 50 = .ok (.aload_n 1, 1) := by decide +kernel
theorem dX7_readNot_51 : decode cX7_readNot 51 = .ok (.iload_n 2, 1) := by decide +kernel
theorem dX7_readNot_52 : decode cX7_readNot 52 = .ok (.iconst 1, 1) := by decide +kernel
theorem dX7_readNot_53 : decode cX7_readNot 53 = .ok (.iadd, 1) := by decide +kernel
theorem dX7_readNot_54 : decode cX7_readNot 54 = .ok (.invokevirtual 102, 3) := by decide +kernel
theorem dX7_readNot_57 : decode cX7_readNot 57 = .ok (.aload_n 0, 1) := by decide +kernel
theorem dX7_readNot_58 : decode cX7_readNot 58 = .ok (.iconst 0, 1) := by decide +kernel
theorem dX7_readNot_59 : decode cX7_readNot 59 = .ok (.iconst 0, 1) := by decide +kernel
theorem dX7_readNot_60 : decode cX7_readNot 60 = .ok (.iconst 0, 1) := by decide +kernel
theorem dX7_readNot_61 : decode cX7_readNot 61 = .ok (.invokevirtual 109, 3) := by decide +kernel
theorem dX7_readNot_64 : decode cX7_readNot 64 = .ok (.goto 21, 3) := by decide +kernel
theorem dX7_readNot_67 : decode cX7_readNot 67 = .ok (.aload_n 1, 1) := by decide +kernel
theorem dX7_readNot_68 : decode cX7_readNot 68 = .ok (.invokevirtual 120, 3) := by decide +kernel
theorem dX7_readNot_71 : decode cX7_readNot 71 = .ok (.aload_n 0, 1) := by decide +kernel
theorem dX7_readNot_72 : decode cX7_readNot 72 = .ok (.aload_n 1, 1) := by decide +kernel
theorem dX7_readNot_73 : decode cX7_readNot 73 = .ok (.iload_n 2, 1) := by decide +kernel
theorem dX7_readNot_74 : decode cX7_readNot 74 = .ok (.iconst 1, 1) := by decide +kernel
theorem dX7_readNot_75 : decode cX7_readNot 75 = .ok (.iadd, 1) := by decide +kernel
theorem dX7_readNot_76 : decode cX7_readNot 76 = .ok (.invokevirtual 85, 3) := by decide +kernel
theorem dX7_readNot_79 : decode cX7_readNot 79 = .ok (.aload_n 1, 1) := by decide +kernel
theorem dX7_readNot_80 : decode cX7_readNot 80 = .ok (.bipush 41, 2) := by decide +kernel
theorem dX7_readNot_82 : decode cX7_readNot 82 = .ok (.invokevirtual 123, 3) := by decide +kernel
theorem dX7_readNot_85 : decode cX7_readNot 85 = .ok (.return_, 1) := by decide +kernel
theorem dX7_readTerm_0 : decode cX7_readTerm 0 = .ok (.aload_n 1, 1) := by decide +kernel
theorem dX7_readTerm_1 : decode cX7_readTerm 1 = .ok (.ldc 127, 2) := by decide +kernel
theorem dX7_readTerm_3 : decode cX7_readTerm 3 = .ok (.invokevirtual 129, 3) := by decide +kernel
theorem dX7_readTerm_6 : decode cX7_readTerm 6 = .ok (.ifCond .eq 52, 3) := by decide +kernel
theorem dX7_readTerm_9 : decode cX7_readTerm 9 = .ok (.aload_n 1, 1) := by decide +kernel
theorem dX7_readTerm_10 : decode cX7_readTerm 10 = .ok (.iconst 0, 1) := by decide +kernel
theorem dX7_readTerm_11 : decode cX7_readTerm 11 = .ok (.bipush 7, 2) := by decide +kernel
theorem dX7_readTerm_13 : decode cX7_readTerm 13 = .ok (.invokevirtual 133, 3) := by decide +kernel
theorem dX7_readTerm_16 : decode cX7_readTerm 16 = .ok (.istore_n 2, 1) := by decide +kernel
theorem dX7_readTerm_17 : decode cX7_readTerm 17 = .ok (.aload_n 1, 1) := by decide +kernel
theorem dX7_readTerm_18 : decode cX7_readTerm 18 = .ok (.bipush 60, 2) := by decide +kernel
theorem dX7_readTerm_20 : decode cX7_readTerm 20 = .ok (.invokevirtual 105, 3) := by decide +kernel
theorem dX7_readTerm_23 : decode cX7_readTerm 23 = .ok (.istore_n 3, 1) := by decide +kernel
theorem dX7_readTerm_24 : decode cX7_readTerm 24 = .ok (.iload_n 3, 1) := by decide +kernel
theorem dX7_readTerm_25 : decode cX7_readTerm 25 = .ok (.ifCond .ne 9, 3) := by decide +kernel
theorem dX7_readTerm_28 : decode cX7_readTerm 28 = .ok (.aload_n 1, 1) := by decide +kernel
theorem dX7_readTerm_29 : decode cX7_readTerm 29 = .ok (.bipush 62, 2) := by decide +kernel
theorem dX7_readTerm_31 : decode cX7_readTerm 31 = .ok (.invokevirtual 123, 3) := by decide +kernel
theorem dX7_readTerm_34 : decode cX7_readTerm 34 = .ok (.aload_n 0, 1) := by decide +kernel
theorem dX7_readTerm_35 : decode cX7_readTerm 35 = .ok (.iload_n 3, 1) := by decide +kernel
theorem dX7_readTerm_36 : decode cX7_readTerm 36 = .ok (.ifCond .eq 7, 3) := by decide +kernel
theorem dX7_readTerm_39 : decode cX7_readTerm 39 = .ok (.iconst 3, 1) := by decide +kernel
theorem dX7_readTerm_40 : decode cX7_readTerm 40 = .ok (.goto 4, 3) := by decide +kernel
theorem dX7_readTerm_43 : decode cX7_readTerm 43 = .ok (.iconst 4, 1) := by decide +kernel
theorem dX7_readTerm_44 : decode cX7_readTerm 44 = .ok (.iload_n 2, 1) := by decide +kernel
theorem dX7_readTerm_45 : decode cX7_readTerm 45 = .ok (.aload_n 1, 1) := by decide +kernel
theorem dX7_readTerm_46 : decode cX7_readTerm 46 = .ok (.iconst 0, 1) := by decide +kernel
theorem dX7_readTerm_47 : decode cX7_readTerm 47 = .ok (.ldc 137, 2) := by decide +kernel
theorem dX7_readTerm_49 : decode cX7_readTerm 49 = .ok (.invokevirtual 133, 3) := by decide +kernel
theorem dX7_readTerm_52 : decode cX7_readTerm 52 = .ok (.invokevirtual 109, 3) := by decide +kernel
theorem dX7_readTerm_55 : decode cX7_readTerm 55 = .ok (.goto 63, 3) := by decide +kernel
theorem dX7_readTerm_58 : decode cX7_readTerm 58 = .ok (.aload_n 1, 1) := by decide +kernel
theorem dX7_readTerm_59 : decode cX7_readTerm 59 = .ok (.ldc 138, 2) := by decide +kernel
theorem dX7_readTerm_61 : decode cX7_readTerm 61 = .ok (.invokevirtual 129, 3) := by decide +kernel
theorem dX7_readTerm_64 : decode cX7_readTerm 64 = .ok (.ifCond .eq 19, 3) := by decide +kernel
theorem dX7_readTerm_67 : decode cX7_readTerm 67 = .ok (.aload_n 0, 1) := by decide +kernel
theorem dX7_readTerm_68 : decode cX7_readTerm 68 = .ok (.iconst 5, 1) := by decide +kernel
theorem dX7_readTerm_69 : decode cX7_readTerm 69 = .ok (.aload_n 1, 1) := by decide +kernel
theorem dX7_readTerm_70 : decode cX7_readTerm 70 = .ok (.iconst 0, 1) := by decide +kernel
theorem dX7_readTerm_71 : decode cX7_readTerm 71 = .ok (.bipush 7, 2) := by decide +kernel
theorem dX7_readTerm_73 : decode cX7_readTerm 73 = .ok (.invokevirtual 133, 3) := by decide +kernel
theorem dX7_readTerm_76 : decode cX7_readTerm 76 = .ok (.iconst 0, 1) := by decide +kernel
theorem dX7_readTerm_77 : decode cX7_readTerm 77 = .ok (.invokevirtual 109, 3) := by decide +kernel
theorem dX7_readTerm_80 : decode cX7_readTerm 80 = .ok (.goto 38, 3) := by decide +kernel
theorem dX7_readTerm_83 : decode cX7_readTerm 83 = .ok (.aload_n 1, 1) := by decide +kernel
theorem dX7_readTerm_84 : decode cX7_readTerm 84 = .ok (.ldc 140, 2) := by decide +kernel
theorem dX7_readTerm_86 : decode cX7_readTerm 86 = .ok (.invokevirtual 129, 3) := by decide +kernel
theorem dX7_readTerm_89 : decode cX7_readTerm 89 = .ok (.ifCond .eq 20, 3) := by decide +kernel
theorem dX7_readTerm_92 : decode cX7_readTerm 92 = .ok (.aload_n 0, 1) := by decide +kernel
theorem dX7_readTerm_93 : decode cX7_readTerm 93 = .ok (.bipush 6, 2) := by decide +kernel
theorem dX7_readTerm_95 : decode cX7_readTerm 95 = .ok (.aload_n 1, 1) := by decide +kernel
theorem dX7_readTerm_96 : decode cX7_readTerm 96 = .ok (.iconst 0, 1) := by decide +kernel
theorem dX7_readTerm_97 : decode cX7_readTerm 97 = .ok (.bipush 15, 2) := by decide +kernel
theorem dX7_readTerm_99 : decode cX7_readTerm 99 = .ok (.invokevirtual 133, 3) := by decide +kernel
theorem dX7_readTerm_102 : decode cX7_readTerm 102 = .ok (.iconst 0, 1) := by decide +kernel
theorem dX7_readTerm_103 : decode cX7_readTerm 103 = .ok (.invokevirtual 109, 3) := by decide +kernel
theorem dX7_readTerm_106 : decode cX7_readTerm 106 = .ok (.goto 12, 3) := by decide +kernel
theorem dX7_readTerm_109 : decode cX7_readTerm 109 = .ok (.aload_n 1, 1) := by decide +kernel
theorem dX7_readTerm_110 : decode cX7_readTerm 110 = .ok (.iconst 1, 1) := by decide +kernel
theorem dX7_readTerm_111 : decode cX7_readTerm 111 = .ok (.aload_n 1, 1) := by decide +kernel
theorem dX7_readTerm_112 : decode cX7_readTerm 112 = .ok (.getfield 92, 3) := by decide +kernel
theorem dX7_readTerm_115 : decode cX7_readTerm 115 = .ok (.invokevirtual 95, 3) := by decide +kernel
theorem dX7_readTerm_118 : decode cX7_readTerm 118 = .ok (.return_, 1) := by decide +kernel
theorem dX7_emit_0 : decode cX7_emit 0 = .ok (.aload_n 0, 1) := by decide +kernel
theorem dX7_emit_1 : decode cX7_emit 1 = .ok (.getfield 76, 3) := by decide +kernel
theorem dX7_emit_4 : decode cX7_emit 4 = .ok (.bipush 60, 2) := by decide +kernel
theorem dX7_emit_6 : decode cX7_emit 6 = .ok (.if_icmp .ge 32, 3) := by decide +kernel
theorem dX7_emit_9 : decode cX7_emit 9 = .ok (.aload_n 0, 1) := by decide +kernel
theorem dX7_emit_10 : decode cX7_emit 10 = .ok (.getfield 21, 3) := by decide +kernel
theorem dX7_emit_13 : decode cX7_emit 13 = .ok (.aload_n 0, 1) := by decide +kernel
theorem dX7_emit_14 : decode cX7_emit 14 = .ok (.getfield 76, 3) := by decide +kernel
theorem dX7_emit_17 : decode cX7_emit 17 = .ok (.iload_n 1, 1) := by decide +kernel
theorem dX7_emit_18 : decode cX7_emit 18 = .ok (.iload_n 2, 1) := by decide +kernel
theorem dX7_emit_19 : decode cX7_emit 19 = .ok (.iconst 3, 1) := by decide +kernel
theorem dX7_emit_20 : decode cX7_emit 20 = .ok (.ishl, 1) := by decide +kernel
theorem dX7_emit_21 : decode cX7_emit 21 = .ok (.ior, 1) := by decide +kernel
theorem dX7_emit_22 : decode cX7_emit 22 = .ok (.iload_n 3, 1) := by decide +kernel
theorem dX7_emit_23 : decode cX7_emit 23 = .ok (.bipush 7, 2) := by decide +kernel
theorem dX7_emit_25 : decode cX7_emit 25 = .ok (.ishl, 1) := by decide +kernel
theorem dX7_emit_26 : decode cX7_emit 26 = .ok (.ior, 1) := by decide +kernel
theorem dX7_emit_27 : decode cX7_emit 27 = .ok (.iastore, 1) := by decide +kernel
theorem dX7_emit_28 : decode cX7_emit 28 = .ok (.aload_n 0, 1) := by decide +kernel
theorem dX7_emit_29 : decode cX7_emit 29 = .ok (.dup, 1) := by decide +kernel
theorem dX7_emit_30 : decode cX7_emit 30 = .ok (.getfield 76, 3) := by decide +kernel
theorem dX7_emit_33 : decode cX7_emit 33 = .ok (.iconst 1, 1) := by decide +kernel
theorem dX7_emit_34 : decode cX7_emit 34 = .ok (.iadd, 1) := by decide +kernel
theorem dX7_emit_35 : decode cX7_emit 35 = .ok (.putfield 76, 3) := by decide +kernel
theorem dX7_emit_38 : decode cX7_emit 38 = .ok (.return_, 1) := by decide +kernel
theorem dX8_init_0 : decode cX8_init 0 = .ok (.aload_n 0, 1) := by decide +kernel
theorem dX8_init_1 : decode cX8_init 1 = .ok (.invokespecial 3, 3) := by decide +kernel
theorem dX8_init_4 : decode cX8_init 4 = .ok (.aload_n 0, 1) := by decide +kernel
theorem dX8_init_5 : decode cX8_init 5 = .ok (.bipush 60, 2) := by decide +kernel
theorem dX8_init_7 : decode cX8_init 7 = .ok (.newarray .int, 2) := by decide +kernel
theorem dX8_init_9 : decode cX8_init 9 = .ok (.putfield 11, 3) := by decide +kernel
theorem dX8_init_12 : decode cX8_init 12 = .ok (.aload_n 0, 1) := by decide +kernel
theorem dX8_init_13 : decode cX8_init 13 = .ok (.bipush 60, 2) := by decide +kernel
theorem dX8_init_15 : decode cX8_init 15 = .ok (.newarray .int, 2) := by decide +kernel
theorem dX8_init_17 : decode cX8_init 17 = .ok (.putfield 15, 3) := by decide +kernel
theorem dX8_init_20 : decode cX8_init 20 = .ok (.aload_n 0, 1) := by decide +kernel
theorem dX8_init_21 : decode cX8_init 21 = .ok (.bipush 60, 2) := by decide +kernel
theorem dX8_init_23 : decode cX8_init 23 = .ok (.newarray .int, 2) := by decide +kernel
theorem dX8_init_25 : decode cX8_init 25 = .ok (.putfield 18, 3) := by decide +kernel
theorem dX8_init_28 : decode cX8_init 28 = .ok (.aload_n 0, 1) := by decide +kernel
theorem dX8_init_29 : decode cX8_init 29 = .ok (.bipush 60, 2) := by decide +kernel
theorem dX8_init_31 : decode cX8_init 31 = .ok (.newarray .int, 2) := by decide +kernel
theorem dX8_init_33 : decode cX8_init 33 = .ok (.putfield 21, 3) := by decide +kernel
theorem dX8_init_36 : decode cX8_init 36 = .ok (.aload_n 0, 1) := by decide +kernel
theorem dX8_init_37 : decode cX8_init 37 = .ok (.bipush 60, 2) := by decide +kernel
theorem dX8_init_39 : decode cX8_init 39 = .ok (.newarray .int, 2) := by decide +kernel
theorem dX8_init_41 : decode cX8_init 41 = .ok (.putfield 24, 3) := by decide +kernel
theorem dX8_init_44 : decode cX8_init 44 = .ok (.aload_n 0, 1) := by decide +kernel
theorem dX8_init_45 : decode cX8_init 45 = .ok (.bipush 60, 2) := by decide +kernel
theorem dX8_init_47 : decode cX8_init 47 = .ok (.newarray .int, 2) := by decide +kernel
theorem dX8_init_49 : decode cX8_init 49 = .ok (.putfield 27, 3) := by decide +kernel
theorem dX8_init_52 : decode cX8_init 52 = .ok (.aload_n 0, 1) := by decide +kernel
theorem dX8_init_53 : decode cX8_init 53 = .ok (.bipush 60, 2) := by decide +kernel
theorem dX8_init_55 : decode cX8_init 55 = .ok (.newarray .int, 2) := by decide +kernel
theorem dX8_init_57 : decode cX8_init 57 = .ok (.putfield 30, 3) := by decide +kernel
theorem dX8_init_60 : decode cX8_init 60 = .ok (.aload_n 0, 1) := by decide +kernel
theorem dX8_init_61 : decode cX8_init 61 = .ok (.bipush 61, 2) := by decide +kernel
theorem dX8_init_63 : decode cX8_init 63 = .ok (.newarray .int, 2) := by decide +kernel
theorem dX8_init_65 : decode cX8_init 65 = .ok (.putfield 33, 3) := by decide +kernel
theorem dX8_init_68 : decode cX8_init 68 = .ok (.aload_n 0, 1) := by decide +kernel
theorem dX8_init_69 : decode cX8_init 69 = .ok (.sipush 300, 3) := by decide +kernel
theorem dX8_init_72 : decode cX8_init 72 = .ok (.newarray .int, 2) := by decide +kernel
theorem dX8_init_74 : decode cX8_init 74 = .ok (.putfield 36, 3) := by decide +kernel
theorem dX8_init_77 : decode cX8_init 77 = .ok (.aload_n 0, 1) := by decide +kernel
theorem dX8_init_78 : decode cX8_init 78 = .ok (.sipush 300, 3) := by decide +kernel
theorem dX8_init_81 : decode cX8_init 81 = .ok (.newarray .int, 2) := by decide +kernel
theorem dX8_init_83 : decode cX8_init 83 = .ok (.putfield 39, 3) := by decide +kernel
theorem dX8_init_86 : decode cX8_init 86 = .ok (.aload_n 0, 1) := by decide +kernel
theorem dX8_init_87 : decode cX8_init 87 = .ok (.sipush 300, 3) := by decide +kernel
theorem dX8_init_90 : decode cX8_init 90 = .ok (.newarray .int, 2) := by decide +kernel
theorem dX8_init_92 : decode cX8_init 92 = .ok (.putfield 42, 3) := by decide +kernel
theorem dX8_init_95 : decode cX8_init 95 = .ok (.aload_n 0, 1) := by decide +kernel
theorem dX8_init_96 : decode cX8_init 96 = .ok (.sipush 300, 3) := by decide +kernel
theorem dX8_init_99 : decode cX8_init 99 = .ok (.newarray .long, 2) := by decide +kernel
theorem dX8_init_101 : decode cX8_init 101 = .ok (.putfield 45, 3) := by decide +kernel
theorem dX8_init_104 : decode cX8_init 104 = .ok (.return_, 1) := by decide +kernel
theorem dX8_read_0 : decode cX8_read 0 = .ok (.aload_n 0, 1) := by decide +kernel
theorem dX8_read_1 : decode cX8_read 1 = .ok (.iconst 0, 1) := by decide +kernel
theorem dX8_read_2 : decode cX8_read 2 = .ok (.putfield 49, 3) := by decide +kernel
theorem dX8_read_5 : decode cX8_read 5 = .ok (.aload_n 0, 1) := by decide +kernel
theorem dX8_read_6 : decode cX8_read 6 = .ok (.iconst 0, 1) := by decide +kernel
theorem dX8_read_7 : decode cX8_read 7 = .ok (.putfield 53, 3) := by decide +kernel
theorem dX8_read_10 : decode cX8_read 10 = .ok (.aload_n 0, 1) := by decide +kernel
theorem dX8_read_11 : decode cX8_read 11 = .ok (.getfield 33, 3) := by decide +kernel
theorem dX8_read_14 : decode cX8_read 14 = .ok (.iconst 0, 1) := by decide +kernel
theorem dX8_read_15 : decode cX8_read 15 = .ok (.iconst 0, 1) := by decide +kernel
theorem dX8_read_16 : decode cX8_read 16 = .ok (.iastore, 1) := by decide +kernel
theorem dX8_read_17 : decode cX8_read 17 = .ok (.aload_n 1, 1) := by decide +kernel
theorem dX8_read_18 : decode cX8_read 18 = .ok (.sipush 4000, 3) := by decide +kernel
theorem dX8_read_21 : decode cX8_read 21 = .ok (.invokevirtual 58, 3) := by decide +kernel
theorem dX8_read_24 : decode cX8_read 24 = .ok (.iconst 0, 1) := by decide +kernel
theorem dX8_read_25 : decode cX8_read 25 = .ok (.istore_n 2, 1) := by decide +kernel
theorem dX8_read_26 : decode cX8_read 26 = .ok (.iload_n 2, 1) := by decide +kernel
theorem dX8_read_27 : decode cX8_read 27 = .ok (.bipush 60, 2) := by decide +kernel
theorem dX8_read_29 : decode cX8_read 29 = .ok (.if_icmp .gt 31, 3) := by decide +kernel
theorem dX8_read_32 : decode cX8_read 32 = .ok (.aload_n 1, 1) := by decide +kernel
theorem dX8_read_33 : decode cX8_read 33 = .ok (.getfield 62, 3) := by decide +kernel
theorem dX8_read_36 : decode cX8_read 36 = .ok (.ifCond .eq 24, 3) := by decide +kernel
theorem dX8_read_39 : decode cX8_read 39 = .ok (.aload_n 0, 1) := by decide +kernel
theorem dX8_read_40 : decode cX8_read 40 = .ok (.aload_n 1, 1) := by decide +kernel
theorem dX8_read_41 : decode cX8_read 41 = .ok (.invokevirtual 65, 3) := by decide +kernel
theorem dX8_read_44 : decode cX8_read 44 = .ok (.aload_n 0, 1) := by decide +kernel
theorem dX8_read_45 : decode cX8_read 45 = .ok (.aload_n 1, 1) := by decide +kernel
theorem dX8_read_46 : decode cX8_read 46 = .ok (.invokevirtual 69, 3) := by decide +kernel
theorem dX8_read_49 : decode cX8_read 49 = .ok (.aload_n 0, 1) := by decide +kernel
theorem dX8_read_50 : decode cX8_read 50 = .ok (.aload_n 1, 1) := by decide +kernel
theorem dX8_read_51 : decode cX8_read 51 = .ok (.invokevirtual 72, 3) := by decide +kernel
theorem dX8_read_54 : decode cX8_read 54 = .ok (.iinc 2 1, 3) := by decide +kernel
theorem dX8_read_57 : decode cX8_read 57 = .ok (.goto (-31), 3) := by decide +kernel
theorem dX8_read_60 : decode cX8_read 60 = .ok (.return_, 1) := by decide +kernel
theorem dX8_readHead_0 : decode cX8_readHead 0 = .ok (.aload_n 1, 1) := by decide +kernel
theorem dX8_readHead_1 : decode cX8_readHead 1 = .ok (.ldc 75, 2) := by decide +kernel
theorem dX8_readHead_3 : decode cX8_readHead 3 = .ok (.invokevirtual 77, 3) := by decide +kernel
theorem dX8_readHead_6 : decode cX8_readHead 6 = .ok (.ifCond .ne 15, 3) := by decide +kernel
theorem dX8_readHead_9 : decode cX8_readHead 9 = .ok (.aload_n 1, 1) := by decide +kernel
theorem dX8_readHead_10 : decode cX8_readHead 10 = .ok (.iconst 1, 1) := by decide +kernel
theorem dX8_readHead_11 : decode cX8_readHead 11 = .ok (.aload_n 1, 1) := by decide +kernel
theorem dX8_readHead_12 : decode cX8_readHead 12 = .ok (.getfield 81, 3) := by decide +kernel
theorem dX8_readHead_15 : decode cX8_readHead 15 = .ok (.invokevirtual 84, 3) := by decide +kernel
theorem dX8_readHead_18 : decode cX8_readHead 18 = .ok (.goto 21, 3) := by decide +kernel
theorem dX8_readHead_21 : decode cX8_readHead 21 = .ok (.aload_n 0, 1) := by decide +kernel
theorem dX8_readHead_22 : decode cX8_readHead 22 = .ok (.getfield 49, 3) := by decide +kernel
theorem dX8_readHead_25 : decode cX8_readHead 25 = .ok (.bipush 60, 2) := by decide +kernel
theorem dX8_readHead_27 : decode cX8_readHead 27 = .ok (.if_icmp .lt 12, 3) := by decide +kernel
theorem dX8_readHead_30 : decode cX8_readHead 30 = .ok (.aload_n 1, 1) := by decide +kernel
theorem dX8_readHead_31 : decode cX8_readHead 31 = .ok (.iconst 2, 1) := by decide +kernel
theorem dX8_readHead_32 : decode cX8_readHead 32 = .ok (.aload_n 1, 1) := by decide +kernel
theorem dX8_readHead_33 : decode cX8_readHead 33 = .ok (.getfield 81, 3) := by decide +kernel
theorem dX8_readHead_36 : decode cX8_readHead 36 = .ok (.invokevirtual 84, 3) := by decide +kernel
theorem dX8_readHead_39 : decode cX8_readHead 39 = .ok (.aload_n 1, 1) := by decide +kernel
theorem dX8_readHead_40 : decode cX8_readHead 40 = .ok (.getfield 88, 3) := by decide +kernel
theorem dX8_readHead_43 : decode cX8_readHead 43 = .ok (.ifCond .ne 12, 3) := by decide +kernel
theorem dX8_readHead_46 : decode cX8_readHead 46 = .ok (.aload_n 0, 1) := by decide +kernel
theorem dX8_readHead_47 : decode cX8_readHead 47 = .ok (.getfield 49, 3) := by decide +kernel
theorem dX8_readHead_50 : decode cX8_readHead 50 = .ok (.bipush 60, 2) := by decide +kernel
theorem dX8_readHead_52 : decode cX8_readHead 52 = .ok (.if_icmp .lt 4, 3) := by decide +kernel
theorem dX8_readHead_55 : decode cX8_readHead 55 = .ok (.return_, 1) := by decide +kernel
theorem dX8_readHead_56 : decode cX8_readHead 56 = .ok (.aload_n 1, 1) := by decide +kernel
theorem dX8_readHead_57 : decode cX8_readHead 57 = .ok (.invokevirtual 91, 3) := by decide +kernel
theorem dX8_readHead_60 : decode cX8_readHead 60 = .ok (.aload_n 1, 1) := by decide +kernel
theorem dX8_readHead_61 : decode cX8_readHead 61 = .ok (.getfield 81, 3) := by decide +kernel
theorem dX8_readHead_64 : decode cX8_readHead 64 = .ok (.istore_n 2, 1) := by decide +kernel
theorem dX8_readHead_65 : decode cX8_readHead 65 = .ok (.aload_n 0, 1) := by decide +kernel
theorem dX8_readHead_66 : decode cX8_readHead 66 = .ok (.aload_n 1, 1) := by decide +kernel
theorem dX8_readHead_67 : decode cX8_readHead 67 = .ok (.invokevirtual 94, 3) := by decide +kernel
theorem dX8_readHead_70 : decode cX8_readHead 70 = .ok (.istore_n 3, 1) := by decide +kernel
theorem dX8_readHead_71 : decode cX8_readHead 71 = .ok (.aload_n 1, 1) := by decide +kernel
theorem dX8_readHead_72 : decode cX8_readHead 72 = .ok (.getfield 88, 3) := by decide +kernel
theorem dX8_readHead_75 : decode cX8_readHead 75 = .ok (.ifCond .ne 31, 3) := by decide +kernel
theorem dX8_readHead_78 : decode cX8_readHead 78 = .ok (.aload_n 0, 1) := by decide +kernel
theorem dX8_readHead_79 : decode cX8_readHead 79 = .ok (.getfield 49, 3) := by decide +kernel
theorem dX8_readHead_82 : decode cX8_readHead 82 = .ok (.ifCond .le 24, 3) := by decide +kernel
theorem dX8_readHead_85 : decode cX8_readHead 85 = .ok (.iload_n 3, 1) := by decide +kernel
theorem dX8_readHead_86 : decode cX8_readHead 86 = .ok (.aload_n 0, 1) := by decide +kernel
theorem dX8_readHead_87 : decode cX8_readHead 87 = .ok (.getfield 11, 3) := by decide +kernel
theorem dX8_readHead_90 : decode cX8_readHead 90 = .ok (.aload_n 0, 1) := by decide +kernel
theorem dX8_readHead_91 : decode cX8_readHead 91 = .ok (.getfield 49, 3) := by decide +kernel
theorem dX8_readHead_94 : decode cX8_readHead 94 = .ok (.iconst 1, 1) := by decide +kernel
theorem dX8_readHead_95 : decode cX8_readHead 95 = .ok (.isub, 1) := by decide +kernel
theorem dX8_readHead_96 : decode cX8_readHead 96 = .ok (.iaload, 1) := by decide +kernel
theorem dX8_readHead_97 : decode cX8_readHead 97 = .ok (.if_icmp .gt 9, 3) := by decide +kernel
theorem dX8_readHead_100 : decode cX8_readHead 100 = .ok (.aload_n 1, 1) := by decide +kernel
theorem dX8_readHead_101 : decode cX8_readHead 101 = .ok (.iconst 3, 1) := by decide +kernel
theorem dX8_readHead_102 : decode cX8_readHead 102 = .ok (.iload_n 2, 1) := by decide +kernel
theorem dX8_readHead_103 : decode cX8_readHead 103 = .ok (.invokevirtual 84, 3) := by decide +kernel
theorem dX8_readHead_106 : decode cX8_readHead 106 = .ok (.aload_n 0, 1) := by decide +kernel
theorem dX8_readHead_107 : decode cX8_readHead 107 = .ok (.getfield 11, 3) := by decide +kernel
theorem dX8_readHead_110 : decode cX8_readHead 110 = .ok (.aload_n 0, 1) := by decide +kernel
theorem dX8_readHead_111 : decode cX8_readHead 111 = .ok (.getfield 49, 3) := by decide +kernel
theorem dX8_readHead_114 : decode cX8_readHead 114 = .ok (.iload_n 3, 1) := by decide +kernel
theorem dX8_readHead_115 : decode cX8_readHead 115 = .ok (.iastore, 1) := by decide +kernel
theorem dX8_readHead_116 : decode cX8_readHead 116 = .ok (.aload_n 0, 1) := by decide +kernel
theorem dX8_readHead_117 : decode cX8_readHead 117 = .ok (.getfield 15, 3) := by decide +kernel
theorem dX8_readHead_120 : decode cX8_readHead 120 = .ok (.aload_n 0, 1) := by decide +kernel
theorem dX8_readHead_121 : decode cX8_readHead 121 = .ok (.getfield 49, 3) := by decide +kernel
theorem dX8_readHead_124 : decode cX8_readHead 124 = .ok (.iconst 0, 1) := by decide +kernel
theorem dX8_readHead_125 : decode cX8_readHead 125 = .ok (.iastore, 1) := by decide +kernel
theorem dX8_readHead_126 : decode cX8_readHead 126 = .ok (.aload_n 0, 1) := by decide +kernel
theorem dX8_readHead_127 : decode cX8_readHead 127 = .ok (.getfield 18, 3) := by decide +kernel
theorem dX8_readHead_130 : decode cX8_readHead 130 = .ok (.aload_n 0, 1) := by decide +kernel
theorem dX8_readHead_131 : decode cX8_readHead 131 = .ok (.getfield 49, 3) := by decide +kernel
theorem dX8_readHead_134 : decode cX8_readHead 134 = .ok (.iconst 0, 1) := by decide +kernel
theorem dX8_readHead_135 : decode cX8_readHead 135 = .ok (.iastore, 1) := by decide +kernel
theorem dX8_readHead_136 : decode cX8_readHead 136 = .ok (.aload_n 0, 1) := by decide +kernel
theorem dX8_readHead_137 : decode cX8_readHead 137 = .ok (.getfield 21, 3) := by decide +kernel
theorem dX8_readHead_140 : decode cX8_readHead 140 = .ok (.aload_n 0, 1) := by decide +kernel
theorem dX8_readHead_141 : decode cX8_readHead 141 = .ok (.getfield 49, 3) := by decide +kernel
theorem dX8_readHead_144 : decode cX8_readHead 144 = .ok (.iconst 0, 1) := by decide +kernel
theorem dX8_readHead_145 : decode cX8_readHead 145 = .ok (.iastore, 1) := by decide +kernel
theorem dX8_readHead_146 : decode cX8_readHead 146 = .ok (.aload_n 0, 1) := by decide +kernel
theorem dX8_readHead_147 : decode cX8_readHead 147 = .ok (.getfield 24, 3) := by decide +kernel
theorem dX8_readHead_150 : decode cX8_readHead 150 = .ok (.aload_n 0, 1) := by decide +kernel
theorem dX8_readHead_151 : decode cX8_readHead 151 = .ok (.getfield 49, 3) := by decide +kernel
theorem dX8_readHead_154 : decode cX8_readHead 154 = .ok (.iconst 0, 1) := by decide +kernel
theorem dX8_readHead_155 : decode cX8_readHead 155 = .ok (.iastore, 1) := by decide +kernel
theorem dX8_readHead_156 : decode cX8_readHead 156 = .ok (.aload_n 0, 1) := by decide +kernel
theorem dX8_readHead_157 : decode cX8_readHead 157 = .ok (.getfield 27, 3) := by decide +kernel
theorem dX8_readHead_160 : decode cX8_readHead 160 = .ok (.aload_n 0, 1) := by decide +kernel
theorem dX8_readHead_161 : decode cX8_readHead 161 = .ok (.getfield 49, 3) := by decide +kernel
theorem dX8_readHead_164 : decode cX8_readHead 164 = .ok (.iconst 0, 1) := by decide +kernel
theorem dX8_readHead_165 : decode cX8_readHead 165 = .ok (.iastore, 1) := by decide +kernel
theorem dX8_readHead_166 : decode cX8_readHead 166 = .ok (.aload_n 0, 1) := by decide +kernel
theorem dX8_readHead_167 : decode cX8_readHead 167 = .ok (.getfield 30, 3) := by decide +kernel
theorem dX8_readHead_170 : decode cX8_readHead 170 = .ok (.aload_n 0, 1) := by decide +kernel
theorem dX8_readHead_171 : decode cX8_readHead 171 = .ok (.getfield 49, 3) := by decide +kernel
theorem dX8_readHead_174 : decode cX8_readHead 174 = .ok (.aload_n 0, 1) := by decide +kernel
theorem dX8_readHead_175 : decode cX8_readHead 175 = .ok (.getfield 49, 3) := by decide +kernel
theorem dX8_readHead_178 : decode cX8_readHead 178 = .ok (.ifCond .le 17, 3) := by decide +kernel
theorem dX8_readHead_181 : decode cX8_readHead 181 = .ok (.aload_n 0, 1) := by decide +kernel
theorem dX8_readHead_182 : decode cX8_readHead 182 = .ok (.getfield 30, 3) := by decide +kernel
theorem dX8_readHead_185 : decode cX8_readHead 185 = .ok (.aload_n 0, 1) := by decide +kernel
theorem dX8_readHead_186 : decode cX8_readHead 186 = .ok (.getfield 49, 3) := by decide +kernel
theorem dX8_readHead_189 : decode cX8_readHead 189 = .ok (.iconst 1, 1) := by decide +kernel
theorem dX8_readHead_190 : decode cX8_readHead 190 = .ok (.isub, 1) := by decide +kernel
theorem dX8_readHead_191 : decode cX8_readHead 191 = .ok (.iaload, 1) := by decide +kernel
theorem dX8_readHead_192 : decode cX8_readHead 192 = .ok (.goto 4, 3) := by decide +kernel
theorem dX8_readHead_195 : decode cX8_readHead 195 = .ok (.iconst 0, 1) := by decide +kernel
theorem dX8_readHead_196 : decode cX8_readHead 196 = .ok (.iastore, 1) := by decide +kernel
theorem dX8_readHead_197 : decode cX8_readHead 197 = .ok (.return_, 1) := by decide +kernel
theorem dX8_readName_0 : decode cX8_readName 0 = .ok (.bipush 100, 2) := by decide +kernel
theorem dX8_readName_2 : decode cX8_readName 2 = .ok (.aload_n 1, 1) := by decide +kernel
theorem dX8_readName_3 : decode cX8_readName 3 = .ok (.iconst 1, 1) := by decide +kernel
theorem dX8_readName_4 : decode cX8_readName 4 = .ok (.sipush 999, 3) := by decide +kernel
theorem dX8_readName_7 : decode cX8_readName 7 = .ok (.invokevirtual 98, 3) := by decide +kernel
theorem dX8_readName_10 : decode cX8_readName 10 = .ok (.imul, 1) := by decide +kernel
theorem dX8_readName_11 : decode cX8_readName 11 = .ok (.istore_n 2, 1) := by decide +kernel
theorem dX8_readName_12 : decode cX8_readName 12 = .ok (.aload_n 1, 1) := by decide +kernel
theorem dX8_readName_13 : decode cX8_readName 13 = .ok (.bipush 46, 2) := by decide +kernel
theorem dX8_readName_15 : decode cX8_readName 15 = .ok (.invokevirtual 102, 3) := by decide +kernel
theorem dX8_readName_18 : decode cX8_readName 18 = .ok (.ifCond .eq 15, 3) := by decide +kernel
theorem dX8_readName_21 : decode cX8_readName 21 = .ok (.iload_n 2, 1) := by decide +kernel
theorem dX8_readName_22 : decode cX8_readName 22 = .ok (.aload_n 1, 1) := by decide +kernel
theorem dX8_readName_23 : decode cX8_readName 23 = .ok (.iconst 1, 1) := by decide +kernel
theorem dX8_readName_24 : decode cX8_readName 24 = .ok (.bipush 99, 2) := by decide +kernel
theorem dX8_readName_26 : decode cX8_readName 26 = .ok (.invokevirtual 98, 3) := by decide +kernel
theorem dX8_readName_29 : decode cX8_readName 29 = .ok (.iadd, 1) := by decide +kernel
theorem dX8_readName_30 : decode cX8_readName 30 = .ok (.goto 4, 3) := by decide +kernel
theorem dX8_readName_33 : decode cX8_readName 33 = .ok (.iload_n 2, 1) := by decide +kernel
theorem dX8_readName_34 : decode cX8_readName 34 = .ok (.ireturn, 1) := by decide +kernel
theorem dX8_readOptions_0 : decode cX8_readOptions 0 = .ok (.iconst 0, 1) := by decide +kernel
theorem dX8_readOptions_1 : decode cX8_readOptions 1 = .ok (.istore_n 2, 1) := by decide +kernel
theorem dX8_readOptions_2 : decode cX8_readOptions 2 = .ok (.iconst 0, 1) := by decide +kernel
theorem dX8_readOptions_3 : decode cX8_readOptions 3 = .ok (.istore_n 3, 1) := by decide +kernel
theorem dX8_readOptions_4 : decode cX8_readOptions 4 = .ok (.iload_n 3, 1) := by decide +kernel
theorem dX8_readOptions_5 : decode cX8_readOptions 5 = .ok (.bipush 7, 2) := by decide +kernel
theorem dX8_readOptions_7 : decode cX8_readOptions 7 = .ok (.if_icmp .ge 65, 3) := by decide +kernel
theorem dX8_readOptions_10 : decode cX8_readOptions 10 = .ok (.aload_n 1, 1) := by decide +kernel
theorem dX8_readOptions_11 : decode cX8_readOptions 11 = .ok (.getfield 88, 3) := by decide +kernel
theorem dX8_readOptions_14 : decode cX8_readOptions 14 = .ok (.ifCond .ne 58, 3) := by decide +kernel
theorem dX8_readOptions_17 : decode cX8_readOptions 17 = .ok (.aload_n 1, 1) := by decide +kernel
theorem dX8_readOptions_18 : decode cX8_readOptions 18 = .ok (.invokestatic 106, 3) := by decide +kernel
theorem dX8_readOptions_21 : decode cX8_readOptions 21 = .ok (.istore 4, 2) := by decide +kernel
theorem dX8_readOptions_23 : decode cX8_readOptions 23 = .ok (.iload 4, 2) := by decide +kernel
theorem dX8_readOptions_25 : decode cX8_readOptions 25 = .ok (.ifCond .ge 4, 3) := by decide +kernel
theorem dX8_readOptions_28 : decode cX8_readOptions 28 = .ok (.return_, 1) := by decide +kernel
theorem dX8_readOptions_29 : decode cX8_readOptions 29 = .ok (.iload_n 2, 1) := by decide +kernel
theorem dX8_readOptions_30 : decode cX8_readOptions 30 = .ok (.iload 4, 2) := by decide +kernel
theorem dX8_readOptions_32 : decode cX8_readOptions 32 = .ok (.ishr, 1) := by decide +kernel
theorem dX8_readOptions_33 : decode cX8_readOptions 33 = .ok (.iconst 1, 1) := by decide +kernel
theorem dX8_readOptions_34 : decode cX8_readOptions 34 = .ok (.iand, 1) := by decide +kernel
theorem dX8_readOptions_35 : decode cX8_readOptions 35 = .ok (.ifCond .eq 13, 3) := by decide +kernel
theorem dX8_readOptions_38 : decode cX8_readOptions 38 = .ok (.aload_n 1, 1) := by decide +kernel
theorem dX8_readOptions_39 : decode cX8_readOptions 39 = .ok (.iconst 3, 1) := by decide +kernel
theorem dX8_readOptions_40 : decode cX8_readOptions 40 = .ok (.aload_n 1, 1) := by decide +kernel
theorem dX8_readOptions_41 : decode cX8_readOptions 41 = .ok (.getfield 81, 3) := by decide +kernel
theorem dX8_readOptions_44 : decode cX8_readOptions 44 = .ok (.invokevirtual 84, 3) := by decide +kernel
theorem dX8_readOptions_47 : decode cX8_readOptions 47 = .ok (.return_, 1) := by decide +kernel
theorem dX8_readOptions_48 : decode cX8_readOptions 48 = .ok (.iload_n 2, 1) := by decide +kernel
theorem dX8_readOptions_49 : decode cX8_readOptions 49 = .ok (.iconst 1, 1) := by decide +kernel
theorem dX8_readOptions_50 : decode cX8_readOptions 50 = .ok (.iload 4, 2) := by decide +kernel
theorem dX8_readOptions_52 : decode cX8_readOptions 52 = .ok (.ishl, 1) := by decide +kernel
theorem dX8_readOptions_53 : decode cX8_readOptions 53 = .ok (.ior, 1) := by decide +kernel
theorem dX8_readOptions_54 : decode cX8_readOptions 54 = .ok (.istore_n 2, 1) := by decide +kernel
theorem dX8_readOptions_55 : decode cX8_readOptions 55 = .ok (.aload_n 1, 1) := by decide +kernel
theorem dX8_readOptions_56 : decode cX8_readOptions 56 = .ok (.invokevirtual 91, 3) := by decide +kernel
theorem dX8_readOptions_59 : decode cX8_readOptions 59 = .ok (.aload_n 0, 1) := by decide +kernel
theorem dX8_readOptions_60 : decode cX8_readOptions 60 = .ok (.aload_n 1, 1) := by decide +kernel
theorem dX8_readOptions_61 : decode cX8_readOptions 61 = .ok (.iload 4, 2) := by decide +kernel
theorem dX8_readOptions_63 : decode cX8_readOptions 63 = .ok (.invokevirtual 109, 3) := by decide +kernel
theorem dX8_readOptions_66 : decode cX8_readOptions 66 = .ok (.iinc 3 1, 3) := by decide +kernel
theorem dX8_readOptions_69 : decode cX8_readOptions 69 = .ok (.goto (-65), 3) := by decide +kernel
theorem dX8_readOptions_72 : decode cX8_readOptions 72 = .ok (.return_, 1) := by decide +kernel
theorem dX8_optionAt_0 : decode cX8_optionAt 0 = .ok (.aload_n 0, 1) := by decide +kernel
theorem dX8_optionAt_1 : decode cX8_optionAt 1 = .ok (.ldc 113, 2) := by decide +kernel
theorem dX8_optionAt_3 : decode cX8_optionAt 3 = .ok (.invokevirtual 77, 3) := by decide +kernel
theorem dX8_optionAt_6 : decode cX8_optionAt 6 = .ok (.ifCond .eq 5, 3) := by decide +kernel
theorem dX8_optionAt_9 : decode cX8_optionAt 9 = .ok (.iconst 0, 1) := by decide +kernel
theorem dX8_optionAt_10 : decode cX8_optionAt 10 = .ok (.ireturn, 1) := by decide +kernel
theorem dX8_optionAt_11 : decode cX8_optionAt 11 = .ok (.aload_n 0, 1) := by decide +kernel
theorem dX8_optionAt_12 : decode cX8_optionAt 12 = .ok (.ldc 115, 2) := by decide +kernel
theorem dX8_optionAt_14 : decode cX8_optionAt 14 = .ok (.invokevirtual 77, 3) := by decide +kernel
theorem dX8_optionAt_17 : decode cX8_optionAt 17 = .ok (.ifCond .eq 5, 3) := by decide +kernel
theorem dX8_optionAt_20 : decode cX8_optionAt 20 = .ok (.iconst 1, 1) := by decide +kernel
theorem dX8_optionAt_21 : decode cX8_optionAt 21 = .ok (.ireturn, 1) := by decide +kernel
theorem dX8_optionAt_22 : decode cX8_optionAt 22 = .ok (.aload_n 0, 1) := by decide +kernel
theorem dX8_optionAt_23 : decode cX8_optionAt 23 = .ok (.ldc 117, 2) := by decide +kernel
theorem dX8_optionAt_25 : decode cX8_optionAt 25 = .ok (.invokevirtual 77, 3) := by decide +kernel
theorem dX8_optionAt_28 : decode cX8_optionAt 28 = .ok (.ifCond .eq 5, 3) := by decide +kernel
theorem dX8_optionAt_31 : decode cX8_optionAt 31 = .ok (.iconst 2, 1) := by decide +kernel
theorem dX8_optionAt_32 : decode cX8_optionAt 32 = .ok (.ireturn, 1) := by decide +kernel
theorem dX8_optionAt_33 : decode cX8_optionAt 33 = .ok (.aload_n 0, 1) := by decide +kernel
theorem dX8_optionAt_34 : decode cX8_optionAt 34 = .ok (.ldc 119, 2) := by decide +kernel
theorem dX8_optionAt_36 : decode cX8_optionAt 36 = .ok (.invokevirtual 77, 3) := by decide +kernel
theorem dX8_optionAt_39 : decode cX8_optionAt 39 = .ok (.ifCond .eq 5, 3) := by decide +kernel
theorem dX8_optionAt_42 : decode cX8_optionAt 42 = .ok (.iconst 3, 1) := by decide +kernel
theorem dX8_optionAt_43 : decode cX8_optionAt 43 = .ok (.ireturn, 1) := by decide +kernel
theorem dX8_optionAt_44 : decode cX8_optionAt 44 = .ok (.aload_n 0, 1) := by decide +kernel
theorem dX8_optionAt_45 : decode cX8_optionAt 45 = .ok (.ldc 121, 2) := by decide +kernel
theorem dX8_optionAt_47 : decode cX8_optionAt 47 = .ok (.invokevirtual 77, 3) := by decide +kernel
theorem dX8_optionAt_50 : decode cX8_optionAt 50 = .ok (.ifCond .eq 5, 3) := by decide +kernel
theorem dX8_optionAt_53 : decode cX8_optionAt 53 = .ok (.iconst 4, 1) := by decide +kernel
theorem dX8_optionAt_54 : decode cX8_optionAt 54 = .ok (.ireturn, 1) := by decide +kernel
theorem dX8_optionAt_55 : decode cX8_optionAt 55 = .ok (.aload_n 0, 1) := by decide +kernel
theorem dX8_optionAt_56 : decode cX8_optionAt 56 = .ok (.ldc 123, 2) := by decide +kernel
theorem dX8_optionAt_58 : decode cX8_optionAt 58 = .ok (.invokevirtual 77, 3) := by decide +kernel
theorem dX8_optionAt_61 : decode cX8_optionAt 61 = .ok (.ifCond .eq 7, 3) := by decide +kernel
theorem dX8_optionAt_64 : decode cX8_optionAt 64 = .ok (.iconst 5, 1) := by decide +kernel
theorem dX8_optionAt_65 : decode cX8_optionAt 65 = .ok (.goto 4, 3) := by decide +kernel
theorem dX8_optionAt_68 : decode cX8_optionAt 68 = .ok (.iconst (-1), 1) := by decide +kernel
theorem dX8_optionAt_69 : decode cX8_optionAt 69 = .ok (.ireturn, 1) := by decide +kernel
theorem dX8_readOption_0 : decode cX8_readOption 0 = .ok (.aload_n 0, 1) := by decide +kernel
theorem dX8_readOption_1 : decode cX8_readOption 1 = .ok (.getfield 49, 3) := by decide +kernel
theorem dX8_readOption_4 : decode cX8_readOption 4 = .ok (.bipush 60, 2) := by decide +kernel
theorem dX8_readOption_6 : decode cX8_readOption 6 = .ok (.if_icmp .lt 4, 3) := by decide +kernel
theorem dX8_readOption_9 : decode cX8_readOption 9 = .ok (.return_, 1) := by decide +kernel
theorem dX8_readOption_10 : decode cX8_readOption 10 = .ok (.iload_n 2, 1) := by decide +kernel
theorem dX8_readOption_11 : decode cX8_readOption 11 = .ok (.tableswitch 129 0 4 #[33, 53, 73, 93, 113], 33) := by decide +kernel
theorem dX8_readOption_44 : decode cX8_readOption 44 = .ok (.aload_n 0, 1) := by decide +kernel
theorem dX8_readOption_45 : decode cX8_readOption 45 = .ok (.getfield 15, 3) := by decide +kernel
theorem dX8_readOption_48 : decode cX8_readOption 48 = .ok (.aload_n 0, 1) := by decide +kernel
theorem dX8_readOption_49 : decode cX8_readOption 49 = .ok (.getfield 49, 3) := by decide +kernel
theorem dX8_readOption_52 : decode cX8_readOption 52 = .ok (.aload_n 1, 1) := by decide +kernel
theorem dX8_readOption_53 : decode cX8_readOption 53 = .ok (.iconst 0, 1) := by decide +kernel
theorem dX8_readOption_54 : decode cX8_readOption 54 = .ok (.sipush 9999, 3) := by decide +kernel
theorem dX8_readOption_57 : decode cX8_readOption 57 = .ok (.invokevirtual 98, 3) := by decide +kernel
theorem dX8_readOption_60 : decode cX8_readOption 60 = .ok (.iastore, 1) := by decide +kernel
theorem dX8_readOption_61 : decode cX8_readOption 61 = .ok (.goto 93, 3) := by decide +kernel
theorem dX8_readOption_64 : decode cX8_readOption 64 = .ok (.aload_n 0, 1) := by decide +kernel
theorem dX8_readOption_65 : decode cX8_readOption 65 = .ok (.getfield 18, 3) := by decide +kernel
theorem dX8_readOption_68 : decode cX8_readOption 68 = .ok (.aload_n 0, 1) := by decide +kernel
theorem dX8_readOption_69 : decode cX8_readOption 69 = .ok (.getfield 49, 3) := by decide +kernel
theorem dX8_readOption_72 : decode cX8_readOption 72 = .ok (.aload_n 1, 1) := by decide +kernel
theorem dX8_readOption_73 : decode cX8_readOption 73 = .ok (.iconst 0, 1) := by decide +kernel
theorem dX8_readOption_74 : decode cX8_readOption 74 = .ok (.sipush 9999, 3) := by decide +kernel
theorem dX8_readOption_77 : decode cX8_readOption 77 = .ok (.invokevirtual 98, 3) := by decide +kernel
theorem dX8_readOption_80 : decode cX8_readOption 80 = .ok (.iastore, 1) := by decide +kernel
theorem dX8_readOption_81 : decode cX8_readOption 81 = .ok (.goto 73, 3) := by decide +kernel
theorem dX8_readOption_84 : decode cX8_readOption 84 = .ok (.aload_n 0, 1) := by decide +kernel
theorem dX8_readOption_85 : decode cX8_readOption 85 = .ok (.getfield 21, 3) := by decide +kernel
theorem dX8_readOption_88 : decode cX8_readOption 88 = .ok (.aload_n 0, 1) := by decide +kernel
theorem dX8_readOption_89 : decode cX8_readOption 89 = .ok (.getfield 49, 3) := by decide +kernel
theorem dX8_readOption_92 : decode cX8_readOption 92 = .ok (.aload_n 1, 1) := by decide +kernel
theorem dX8_readOption_93 : decode cX8_readOption 93 = .ok (.iconst 0, 1) := by decide +kernel
theorem dX8_readOption_94 : decode cX8_readOption 94 = .ok (.sipush 9999, 3) := by decide +kernel
theorem dX8_readOption_97 : decode cX8_readOption 97 = .ok (.invokevirtual 98, 3) := by decide +kernel
theorem dX8_readOption_100 : decode cX8_readOption 100 = .ok (.iastore, 1) := by decide +kernel
theorem dX8_readOption_101 : decode cX8_readOption 101 = .ok (.goto 53, 3) := by decide +kernel
theorem dX8_readOption_104 : decode cX8_readOption 104 = .ok (.aload_n 0, 1) := by decide +kernel
theorem dX8_readOption_105 : decode cX8_readOption 105 = .ok (.getfield 24, 3) := by decide +kernel
theorem dX8_readOption_108 : decode cX8_readOption 108 = .ok (.aload_n 0, 1) := by decide +kernel
theorem dX8_readOption_109 : decode cX8_readOption 109 = .ok (.getfield 49, 3) := by decide +kernel
theorem dX8_readOption_112 : decode cX8_readOption 112 = .ok (.aload_n 1, 1) := by decide +kernel
theorem dX8_readOption_113 : decode cX8_readOption 113 = .ok (.iconst 1, 1) := by decide +kernel
theorem dX8_readOption_114 : decode cX8_readOption 114 = .ok (.sipush 9999, 3) := by decide +kernel
theorem dX8_readOption_117 : decode cX8_readOption 117 = .ok (.invokevirtual 98, 3) := by decide +kernel
theorem dX8_readOption_120 : decode cX8_readOption 120 = .ok (.iastore, 1) := by decide +kernel
theorem dX8_readOption_121 : decode cX8_readOption 121 = .ok (.goto 33, 3) := by decide +kernel
theorem dX8_readOption_124 : decode cX8_readOption 124 = .ok (.aload_n 0, 1) := by decide +kernel
theorem dX8_readOption_125 : decode cX8_readOption 125 = .ok (.getfield 30, 3) := by decide +kernel
theorem dX8_readOption_128 : decode cX8_readOption 128 = .ok (.aload_n 0, 1) := by decide +kernel
theorem dX8_readOption_129 : decode cX8_readOption 129 = .ok (.getfield 49, 3) := by decide +kernel
theorem dX8_readOption_132 : decode cX8_readOption 132 = .ok (.aload_n 0, 1) := by decide +kernel
theorem dX8_readOption_133 : decode cX8_readOption 133 = .ok (.getfield 53, 3) := by decide +kernel
theorem dX8_readOption_136 : decode cX8_readOption 136 = .ok (.iastore, 1) := by decide +kernel
theorem dX8_readOption_137 : decode cX8_readOption 137 = .ok (.goto 17, 3) := by decide +kernel
theorem dX8_readOption_140 : decode cX8_readOption 140 = .ok (.aload_n 0, 1) := by decide +kernel
theorem dX8_readOption_141 : decode cX8_readOption 141 = .ok (.getfield 27, 3) := by decide +kernel
theorem dX8_readOption_144 : decode cX8_readOption 144 = .ok (.aload_n 0, 1) := by decide +kernel
theorem dX8_readOption_145 : decode cX8_readOption 145 = .ok (.getfield 49, 3) := by decide +kernel
theorem dX8_readOption_148 : decode cX8_readOption 148 = .ok (.aload_n 0, 1) := by decide +kernel
theorem dX8_readOption_149 : decode cX8_readOption 149 = .ok (.aload_n 1, 1) := by decide +kernel
theorem dX8_readOption_150 : decode cX8_readOption 150 = .ok (.invokevirtual 94, 3) := by decide +kernel
theorem dX8_readOption_153 : decode cX8_readOption 153 = .ok (.iastore, 1) := by decide +kernel
theorem dX8_readOption_154 : decode cX8_readOption 154 = .ok (.return_, 1) := by decide +kernel
theorem dX8_readBody_0 : decode cX8_readBody 0 = .ok (.aload_n 1, 1) := by decide +kernel
theorem dX8_readBody_1 : decode cX8_readBody 1 = .ok (.bipush 123, 2) := by decide +kernel
theorem dX8_readBody_3 : decode cX8_readBody 3 = .ok (.invokevirtual 125, 3) := by decide +kernel
theorem dX8_readBody_6 : decode cX8_readBody 6 = .ok (.iconst 0, 1) := by decide +kernel
theorem dX8_readBody_7 : decode cX8_readBody 7 = .ok (.istore_n 2, 1) := by decide +kernel
theorem dX8_readBody_8 : decode cX8_readBody 8 = .ok (.iload_n 2, 1) := by decide +kernel
theorem dX8_readBody_9 : decode cX8_readBody 9 = .ok (.sipush 300, 3) := by decide +kernel
theorem dX8_readBody_12 : decode cX8_readBody 12 = .ok (.if_icmp .gt 36, 3) := by decide +kernel
theorem dX8_readBody_15 : decode cX8_readBody 15 = .ok (.aload_n 1, 1) := by decide +kernel
theorem dX8_readBody_16 : decode cX8_readBody 16 = .ok (.getfield 88, 3) := by decide +kernel
theorem dX8_readBody_19 : decode cX8_readBody 19 = .ok (.ifCond .ne 29, 3) := by decide +kernel
theorem dX8_readBody_22 : decode cX8_readBody 22 = .ok (.aload_n 1, 1) := by decide +kernel
theorem dX8_readBody_23 : decode cX8_readBody 23 = .ok (.bipush 125, 2) := by decide +kernel
theorem dX8_readBody_25 : decode cX8_readBody 25 = .ok (.invokevirtual 129, 3) := by decide +kernel
theorem dX8_readBody_28 : decode cX8_readBody 28 = .ok (.ifCond .ne 20, 3) := by decide +kernel
theorem dX8_readBody_31 : decode cX8_readBody 31 = .ok (.aload_n 0, 1) := by decide +kernel
theorem dX8_readBody_32 : decode cX8_readBody 32 = .ok (.aload_n 1, 1) := by decide +kernel
theorem dX8_readBody_33 : decode cX8_readBody 33 = .ok (.invokevirtual 132, 3) := by decide +kernel
theorem dX8_readBody_36 : decode cX8_readBody 36 = .ok (.aload_n 1, 1) := by decide +kernel
theorem dX8_readBody_37 : decode cX8_readBody 37 = .ok (.bipush 59, 2) := by decide +kernel
theorem dX8_readBody_39 : decode cX8_readBody 39 = .ok (.invokevirtual 125, 3) := by decide +kernel
theorem dX8_readBody_42 : decode cX8_readBody 42 = .ok (.iinc 2 1, 3) := by decide +kernel
theorem dX8_readBody_45 : decode cX8_readBody 45 = .ok (.goto (-37), 3) := by decide +kernel
theorem dX8_readBody_48 : decode cX8_readBody 48 = .ok (.aload_n 1, 1) := by decide +kernel
theorem dX8_readBody_49 : decode cX8_readBody 49 = .ok (.bipush 125, 2) := by decide +kernel
theorem dX8_readBody_51 : decode cX8_readBody 51 = .ok (.invokevirtual 125, 3) := by decide +kernel
theorem dX8_readBody_54 : decode cX8_readBody 54 = .ok (.aload_n 1, 1) := by decide +kernel
theorem dX8_readBody_55 : decode cX8_readBody 55 = .ok (.getfield 88, 3) := by decide +kernel
theorem dX8_readBody_58 : decode cX8_readBody 58 = .ok (.ifCond .ne 35, 3) := by decide +kernel
theorem dX8_readBody_61 : decode cX8_readBody 61 = .ok (.aload_n 0, 1) := by decide +kernel
theorem dX8_readBody_62 : decode cX8_readBody 62 = .ok (.getfield 49, 3) := by decide +kernel
theorem dX8_readBody_65 : decode cX8_readBody 65 = .ok (.bipush 60, 2) := by decide +kernel
theorem dX8_readBody_67 : decode cX8_readBody 67 = .ok (.if_icmp .ge 26, 3) := by decide +kernel
theorem dX8_readBody_70 : decode cX8_readBody 70 = .ok (.aload_n 0, 1) := by decide +kernel
theorem dX8_readBody_71 : decode cX8_readBody 71 = .ok (.dup, 1) := by decide +kernel
theorem dX8_readBody_72 : decode cX8_readBody 72 = .ok (.getfield 49, 3) := by decide +kernel
theorem dX8_readBody_75 : decode cX8_readBody 75 = .ok (.iconst 1, 1) := by decide +kernel
theorem dX8_readBody_76 : decode cX8_readBody 76 = .ok (.iadd, 1) := by decide +kernel
theorem dX8_readBody_77 : decode cX8_readBody 77 = .ok (.putfield 49, 3) := by decide +kernel
theorem dX8_readBody_80 : decode cX8_readBody 80 = .ok (.aload_n 0, 1) := by decide +kernel
theorem dX8_readBody_81 : decode cX8_readBody 81 = .ok (.getfield 33, 3) := by decide +kernel
theorem dX8_readBody_84 : decode cX8_readBody 84 = .ok (.aload_n 0, 1) := by decide +kernel
theorem dX8_readBody_85 : decode cX8_readBody 85 = .ok (.getfield 49, 3) := by decide +kernel
theorem dX8_readBody_88 : decode cX8_readBody 88 = .ok (.aload_n 0, 1) := by decide +kernel
theorem dX8_readBody_89 : decode cX8_readBody 89 = .ok (.getfield 53, 3) := by decide +kernel
theorem dX8_readBody_92 : decode cX8_readBody 92 = .ok (.iastore, 1) := by decide +kernel
theorem dX8_readBody_93 : decode cX8_readBody 93 = .ok (.return_, 1) := by decide +kernel
theorem dX8_readAct_0 : decode cX8_readAct 0 = .ok (.aload_n 1, 1) := by decide +kernel
theorem dX8_readAct_1 : decode cX8_readAct 1 = .ok (.invokestatic 135, 3) := by decide +kernel
theorem dX8_readAct_4 : decode cX8_readAct 4 = .ok (.istore_n 2, 1) := by decide +kernel
theorem dX8_readAct_5 : decode cX8_readAct 5 = .ok (.iload_n 2, 1) := by decide +kernel
theorem dX8_readAct_6 : decode cX8_readAct 6 = .ok (.ifCond .lt 13, 3) := by decide +kernel
theorem dX8_readAct_9 : decode cX8_readAct 9 = .ok (.aload_n 0, 1) := by decide +kernel
theorem dX8_readAct_10 : decode cX8_readAct 10 = .ok (.getfield 53, 3) := by decide +kernel
theorem dX8_readAct_13 : decode cX8_readAct 13 = .ok (.sipush 300, 3) := by decide +kernel
theorem dX8_readAct_16 : decode cX8_readAct 16 = .ok (.if_icmp .lt 21, 3) := by decide +kernel
theorem dX8_readAct_19 : decode cX8_readAct 19 = .ok (.aload_n 1, 1) := by decide +kernel
theorem dX8_readAct_20 : decode cX8_readAct 20 = .ok (.iload_n 2, 1) := by decide +kernel
theorem dX8_readAct_21 : decode cX8_readAct 21 = .ok (.ifCond .ge 7, 3) := by decide +kernel
theorem dX8_readAct_24 : decode cX8_readAct 24 = .ok (.iconst 1, 1) := by decide +kernel
theorem dX8_readAct_25 : decode cX8_readAct 25 = .ok (.goto 4, 3) := by decide +kernel
theorem dX8_readAct_28 : decode cX8_readAct 28 = .ok (.iconst 2, 1) := by decide +kernel
theorem dX8_readAct_29 : decode cX8_readAct 29 = .ok (.aload_n 1, 1) := by decide +kernel
theorem dX8_readAct_30 : decode cX8_readAct 30 = .ok (.getfield 81, 3) := by decide +kernel
theorem dX8_readAct_33 : decode cX8_readAct 33 = .ok (.invokevirtual 84, 3) := by decide +kernel
theorem dX8_readAct_36 : decode cX8_readAct 36 = .ok (.return_, 1) := by decide +kernel
theorem dX8_readAct_37 : decode cX8_readAct 37 = .ok (.aload_n 1, 1) := by decide +kernel
theorem dX8_readAct_38 : decode cX8_readAct 38 = .ok (.invokevirtual 91, 3) := by decide +kernel
theorem dX8_readAct_41 : decode cX8_readAct 41 = .ok (.aload_n 0, 1) := by decide +kernel
theorem dX8_readAct_42 : decode cX8_readAct 42 = .ok (.getfield 36, 3) := by decide +kernel
theorem dX8_readAct_45 : decode cX8_readAct 45 = .ok (.aload_n 0, 1) := by decide +kernel
theorem dX8_readAct_46 : decode cX8_readAct 46 = .ok (.getfield 53, 3) := by decide +kernel
theorem dX8_readAct_49 : decode cX8_readAct 49 = .ok (.iload_n 2, 1) := by decide +kernel
theorem dX8_readAct_50 : decode cX8_readAct 50 = .ok (.iastore, 1) := by decide +kernel
theorem dX8_readAct_51 : decode cX8_readAct 51 = .ok (.aload_n 0, 1) := by decide +kernel
theorem dX8_readAct_52 : decode cX8_readAct 52 = .ok (.getfield 45, 3) := by decide +kernel
theorem dX8_readAct_55 : decode cX8_readAct 55 = .ok (.aload_n 0, 1) := by decide +kernel
theorem dX8_readAct_56 : decode cX8_readAct 56 = .ok (.getfield 53, 3) := by decide +kernel
theorem dX8_readAct_59 : decode cX8_readAct 59 = .ok (.iload_n 2, 1) := by decide +kernel
theorem dX8_readAct_60 : decode cX8_readAct 60 = .ok (.ifCond .ne 10, 3) := by decide +kernel
theorem dX8_readAct_63 : decode cX8_readAct 63 = .ok (.aload_n 1, 1) := by decide +kernel
theorem dX8_readAct_64 : decode cX8_readAct 64 = .ok (.invokestatic 138, 3) := by decide +kernel
theorem dX8_readAct_67 : decode cX8_readAct 67 = .ok (.goto 4, 3) := by decide +kernel
theorem dX8_readAct_70 : decode cX8_readAct 70 = .ok (.lconst 0, 1) := by decide +kernel
theorem dX8_readAct_71 : decode cX8_readAct 71 = .ok (.lastore, 1) := by decide +kernel
theorem dX8_readAct_72 : decode cX8_readAct 72 = .ok (.aload_n 0, 1) := by decide +kernel
theorem dX8_readAct_73 : decode cX8_readAct 73 = .ok (.getfield 39, 3) := by decide +kernel
theorem dX8_readAct_76 : decode cX8_readAct 76 = .ok (.aload_n 0, 1) := by decide +kernel
theorem dX8_readAct_77 : decode cX8_readAct 77 = .ok (.getfield 53, 3) := by decide +kernel
theorem dX8_readAct_80 : decode cX8_readAct 80 = .ok (.iload_n 2, 1) := by decide +kernel
theorem dX8_readAct_81 : decode cX8_readAct 81 = .ok (.ifCond .ne 7, 3) := by decide +kernel
theorem dX8_readAct_84 : decode cX8_readAct 84 = .ok (.iconst 0, 1) := by decide +kernel
theorem dX8_readAct_85 : decode cX8_readAct 85 = .ok (.goto 12, 3) := by decide +kernel
theorem dX8_readAct_88 : decode cX8_readAct 88 = .ok (.aload_n 1, 1) := by decide +kernel
theorem dX8_readAct_89 : decode cX8_readAct 89 = .ok (.iconst 0, 1) := by decide +kernel
theorem dX8_readAct_90 : decode cX8_readAct 90 = .ok (.iload_n 2, 1) := by decide +kernel
theorem dX8_readAct_91 : decode cX8_readAct 91 = .ok (.invokestatic 142, 3) := by decide +kernel
theorem dX8_readAct_94 : decode cX8_readAct 94 = .ok (.invokevirtual 98, 3) := by decide +kernel
theorem dX8_readAct_97 : decode cX8_readAct 97 = .ok (.iastore, 1) := by decide +kernel
theorem dX8_readAct_98 : decode cX8_readAct 98 = .ok (.iload_n 2, 1) := by decide +kernel
theorem dX8_readAct_99 : decode cX8_readAct 99 = .ok (.tableswitch 105 0 5 #[79, 37, 105, 105, 62, 79], 37) := by decide +kernel
theorem dX8_readAct_136 : decode cX8_readAct 136 = .ok (.aload_n 1, 1) := by decide +kernel
theorem dX8_readAct_137 : decode cX8_readAct 137 = .ok (.ldc 146, 2) := by decide +kernel
theorem dX8_readAct_139 : decode cX8_readAct 139 = .ok (.invokevirtual 148, 3) := by decide +kernel
theorem dX8_readAct_142 : decode cX8_readAct 142 = .ok (.aload_n 0, 1) := by decide +kernel
theorem dX8_readAct_143 : decode cX8_readAct 143 = .ok (.getfield 42, 3) := by decide +kernel
theorem dX8_readAct_146 : decode cX8_readAct 146 = .ok (.aload_n 0, 1) := by decide +kernel
theorem dX8_readAct_147 : decode cX8_readAct 147 = .ok (.getfield 53, 3) := by decide +kernel
theorem dX8_readAct_150 : decode cX8_readAct 150 = .ok (.aload_n 1, 1) := by decide +kernel
theorem dX8_readAct_151 : decode cX8_readAct 151 = .ok (.iconst 0, 1) := by decide +kernel
theorem dX8_readAct_152 : decode cX8_readAct 152 = .ok (.ldc 152, 2) := by decide +kernel
theorem dX8_readAct_154 : decode cX8_readAct 154 = .ok (.invokevirtual 98, 3) := by decide +kernel
theorem dX8_readAct_157 : decode cX8_readAct 157 = .ok (.iastore, 1) := by decide +kernel
theorem dX8_readAct_158 : decode cX8_readAct 158 = .ok (.goto 56, 3) := by decide +kernel
theorem dX8_readAct_161 : decode cX8_readAct 161 = .ok (.aload_n 0, 1) := by decide +kernel
theorem dX8_readAct_162 : decode cX8_readAct 162 = .ok (.getfield 42, 3) := by decide +kernel
theorem dX8_readAct_165 : decode cX8_readAct 165 = .ok (.aload_n 0, 1) := by decide +kernel
theorem dX8_readAct_166 : decode cX8_readAct 166 = .ok (.getfield 53, 3) := by decide +kernel
theorem dX8_readAct_169 : decode cX8_readAct 169 = .ok (.aload_n 0, 1) := by decide +kernel
theorem dX8_readAct_170 : decode cX8_readAct 170 = .ok (.aload_n 1, 1) := by decide +kernel
theorem dX8_readAct_171 : decode cX8_readAct 171 = .ok (.invokevirtual 94, 3) := by decide +kernel
theorem dX8_readAct_174 : decode cX8_readAct 174 = .ok (.iastore, 1) := by decide +kernel
theorem dX8_readAct_175 : decode cX8_readAct 175 = .ok (.goto 39, 3) := by decide +kernel
theorem dX8_readAct_178 : decode cX8_readAct 178 = .ok (.aload_n 1, 1) := by decide +kernel
theorem dX8_readAct_179 : decode cX8_readAct 179 = .ok (.ldc 153, 2) := by decide +kernel
theorem dX8_readAct_181 : decode cX8_readAct 181 = .ok (.invokevirtual 148, 3) := by decide +kernel
theorem dX8_readAct_184 : decode cX8_readAct 184 = .ok (.aload_n 0, 1) := by decide +kernel
theorem dX8_readAct_185 : decode cX8_readAct 185 = .ok (.getfield 42, 3) := by decide +kernel
theorem dX8_readAct_188 : decode cX8_readAct 188 = .ok (.aload_n 0, 1) := by decide +kernel
theorem dX8_readAct_189 : decode cX8_readAct 189 = .ok (.getfield 53, 3) := by decide +kernel
theorem dX8_readAct_192 : decode cX8_readAct 192 = .ok (.aload_n 1, 1) := by decide +kernel
theorem dX8_readAct_193 : decode cX8_readAct 193 = .ok (.iconst 0, 1) := by decide +kernel
theorem dX8_readAct_194 : decode cX8_readAct 194 = .ok (.sipush 255, 3) := by decide +kernel
theorem dX8_readAct_197 : decode cX8_readAct 197 = .ok (.invokevirtual 98, 3) := by decide +kernel
theorem dX8_readAct_200 : decode cX8_readAct 200 = .ok (.iastore, 1) := by decide +kernel
theorem dX8_readAct_201 : decode cX8_readAct 201 = .ok (.goto 13, 3) := by decide +kernel
theorem dX8_readAct_204 : decode cX8_readAct 204 = .ok (.aload_n 0, 1) := by decide +kernel
theorem dX8_readAct_205 : decode cX8_readAct 205 = .ok (.getfield 42, 3) := by decide +kernel
theorem dX8_readAct_208 : decode cX8_readAct 208 = .ok (.aload_n 0, 1) := by decide +kernel
theorem dX8_readAct_209 : decode cX8_readAct 209 = .ok (.getfield 53, 3) := by decide +kernel
theorem dX8_readAct_212 : decode cX8_readAct 212 = .ok (.iconst 0, 1) := by decide +kernel
theorem dX8_readAct_213 : decode cX8_readAct 213 = .ok (.iastore, 1) := by decide +kernel
theorem dX8_readAct_214 : decode cX8_readAct 214 = .ok (.aload_n 0, 1) := by decide +kernel
theorem dX8_readAct_215 : decode cX8_readAct 215 = .ok (.dup, 1) := by decide +kernel
theorem dX8_readAct_216 : decode cX8_readAct 216 = .ok (.getfield 53, 3) := by decide +kernel
theorem dX8_readAct_219 : decode cX8_readAct 219 = .ok (.iconst 1, 1) := by decide +kernel
theorem dX8_readAct_220 : decode cX8_readAct 220 = .ok (.iadd, 1) := by decide +kernel
theorem dX8_readAct_221 : decode cX8_readAct 221 = .ok (.putfield 53, 3) := by decide +kernel
theorem dX8_readAct_224 : decode cX8_readAct 224 = .ok (.return_, 1) := by decide +kernel
theorem dX8_mostOf_0 : decode cX8_mostOf 0 = .ok (.iload_n 0, 1) := by decide +kernel
theorem dX8_mostOf_1 : decode cX8_mostOf 1 = .ok (.iconst 3, 1) := by decide +kernel
theorem dX8_mostOf_2 : decode cX8_mostOf 2 = .ok (.if_icmp .ne 6, 3) := by decide +kernel
theorem dX8_mostOf_5 : decode cX8_mostOf 5 = .ok (.bipush 15, 2) := by decide +kernel
theorem dX8_mostOf_7 : decode cX8_mostOf 7 = .ok (.ireturn, 1) := by decide +kernel
theorem dX8_mostOf_8 : decode cX8_mostOf 8 = .ok (.iload_n 0, 1) := by decide +kernel
theorem dX8_mostOf_9 : decode cX8_mostOf 9 = .ok (.iconst 1, 1) := by decide +kernel
theorem dX8_mostOf_10 : decode cX8_mostOf 10 = .ok (.if_icmp .eq 8, 3) := by decide +kernel
theorem dX8_mostOf_13 : decode cX8_mostOf 13 = .ok (.iload_n 0, 1) := by decide +kernel
theorem dX8_mostOf_14 : decode cX8_mostOf 14 = .ok (.iconst 2, 1) := by decide +kernel
theorem dX8_mostOf_15 : decode cX8_mostOf 15 = .ok (.if_icmp .ne 8, 3) := by decide +kernel
theorem dX8_mostOf_18 : decode cX8_mostOf 18 = .ok (.bipush 7, 2) := by decide +kernel
theorem dX8_mostOf_20 : decode cX8_mostOf 20 = .ok (.goto 4, 3) := by decide +kernel
theorem dX8_mostOf_23 : decode cX8_mostOf 23 = .ok (.iconst 3, 1) := by decide +kernel
theorem dX8_mostOf_24 : decode cX8_mostOf 24 = .ok (.ireturn, 1) := by decide +kernel
theorem dX8_kindAt_0 : decode cX8_kindAt 0 = .ok (.aload_n 0, 1) := by decide +kernel
theorem dX8_kindAt_1 : decode cX8_kindAt 1 = .ok (.ldc 155, 2) := by decide +kernel
theorem dX8_kindAt_3 : decode cX8_kindAt 3 = .ok (.invokevirtual 77, 3) := by decide +kernel
theorem dX8_kindAt_6 : decode cX8_kindAt 6 = .ok (.ifCond .eq 5, 3) := by decide +kernel
theorem dX8_kindAt_9 : decode cX8_kindAt 9 = .ok (.iconst 0, 1) := by decide +kernel
theorem dX8_kindAt_10 : decode cX8_kindAt 10 = .ok (.ireturn, 1) := by decide +kernel
theorem dX8_kindAt_11 : decode cX8_kindAt 11 = .ok (.aload_n 0, 1) := by decide +kernel
theorem dX8_kindAt_12 : decode cX8_kindAt 12 = .ok (.ldc 157, 2) := by decide +kernel
theorem dX8_kindAt_14 : decode cX8_kindAt 14 = .ok (.invokevirtual 77, 3) := by decide +kernel
theorem dX8_kindAt_17 : decode cX8_kindAt 17 = .ok (.ifCond .eq 5, 3) := by decide +kernel
theorem dX8_kindAt_20 : decode cX8_kindAt 20 = .ok (.iconst 1, 1) := by decide +kernel
theorem dX8_kindAt_21 : decode cX8_kindAt 21 = .ok (.ireturn, 1) := by decide +kernel
theorem dX8_kindAt_22 : decode cX8_kindAt 22 = .ok (.aload_n 0, 1) := by decide +kernel
theorem dX8_kindAt_23 : decode cX8_kindAt 23 = .ok (.ldc 159, 2) := by decide +kernel
theorem dX8_kindAt_25 : decode cX8_kindAt 25 = .ok (.invokevirtual 77, 3) := by decide +kernel
theorem dX8_kindAt_28 : decode cX8_kindAt 28 = .ok (.ifCond .eq 5, 3) := by decide +kernel
theorem dX8_kindAt_31 : decode cX8_kindAt 31 = .ok (.iconst 2, 1) := by decide +kernel
theorem dX8_kindAt_32 : decode cX8_kindAt 32 = .ok (.ireturn, 1) := by decide +kernel
theorem dX8_kindAt_33 : decode cX8_kindAt 33 = .ok (.aload_n 0, 1) := by decide +kernel
theorem dX8_kindAt_34 : decode cX8_kindAt 34 = .ok (.ldc 161, 2) := by decide +kernel
theorem dX8_kindAt_36 : decode cX8_kindAt 36 = .ok (.invokevirtual 77, 3) := by decide +kernel
theorem dX8_kindAt_39 : decode cX8_kindAt 39 = .ok (.ifCond .eq 5, 3) := by decide +kernel
theorem dX8_kindAt_42 : decode cX8_kindAt 42 = .ok (.iconst 3, 1) := by decide +kernel
theorem dX8_kindAt_43 : decode cX8_kindAt 43 = .ok (.ireturn, 1) := by decide +kernel
theorem dX8_kindAt_44 : decode cX8_kindAt 44 = .ok (.aload_n 0, 1) := by decide +kernel
theorem dX8_kindAt_45 : decode cX8_kindAt 45 = .ok (.ldc 163, 2) := by decide +kernel
theorem dX8_kindAt_47 : decode cX8_kindAt 47 = .ok (.invokevirtual 77, 3) := by decide +kernel
theorem dX8_kindAt_50 : decode cX8_kindAt 50 = .ok (.ifCond .eq 5, 3) := by decide +kernel
theorem dX8_kindAt_53 : decode cX8_kindAt 53 = .ok (.iconst 4, 1) := by decide +kernel
theorem dX8_kindAt_54 : decode cX8_kindAt 54 = .ok (.ireturn, 1) := by decide +kernel
theorem dX8_kindAt_55 : decode cX8_kindAt 55 = .ok (.aload_n 0, 1) := by decide +kernel
theorem dX8_kindAt_56 : decode cX8_kindAt 56 = .ok (.ldc 165, 2) := by decide +kernel
theorem dX8_kindAt_58 : decode cX8_kindAt 58 = .ok (.invokevirtual 77, 3) := by decide +kernel
theorem dX8_kindAt_61 : decode cX8_kindAt 61 = .ok (.ifCond .eq 7, 3) := by decide +kernel
theorem dX8_kindAt_64 : decode cX8_kindAt 64 = .ok (.iconst 5, 1) := by decide +kernel
theorem dX8_kindAt_65 : decode cX8_kindAt 65 = .ok (.goto 4, 3) := by decide +kernel
theorem dX8_kindAt_68 : decode cX8_kindAt 68 = .ok (.iconst (-1), 1) := by decide +kernel
theorem dX8_kindAt_69 : decode cX8_kindAt 69 = .ok (.ireturn, 1) := by decide +kernel
theorem dX8_readChannels_0 : decode cX8_readChannels 0 = .ok (.lconst 0, 1) := by decide +kernel
theorem dX8_readChannels_1 : decode cX8_readChannels 1 = .ok (.lstore_n 1, 1) := by decide +kernel
theorem dX8_readChannels_2 : decode cX8_readChannels 2 = .ok (.iconst 0, 1) := by decide +kernel
theorem dX8_readChannels_3 : decode cX8_readChannels 3 = .ok (.istore_n 3, 1) := by decide +kernel
theorem dX8_readChannels_4 : decode cX8_readChannels 4 = .ok (.iload_n 3, 1) := by decide +kernel
theorem dX8_readChannels_5 : decode cX8_readChannels 5 = .ok (.sipush 4000, 3) := by decide +kernel
theorem dX8_readChannels_8 : decode cX8_readChannels 8 = .ok (.if_icmp .ge 74, 3) := by decide +kernel
theorem dX8_readChannels_11 : decode cX8_readChannels 11 = .ok (.aload_n 0, 1) := by decide +kernel
theorem dX8_readChannels_12 : decode cX8_readChannels 12 = .ok (.iconst 1, 1) := by decide +kernel
theorem dX8_readChannels_13 : decode cX8_readChannels 13 = .ok (.bipush 64, 2) := by decide +kernel
theorem dX8_readChannels_15 : decode cX8_readChannels 15 = .ok (.invokevirtual 98, 3) := by decide +kernel
theorem dX8_readChannels_18 : decode cX8_readChannels 18 = .ok (.istore 4, 2) := by decide +kernel
theorem dX8_readChannels_20 : decode cX8_readChannels 20 = .ok (.aload_n 0, 1) := by decide +kernel
theorem dX8_readChannels_21 : decode cX8_readChannels 21 = .ok (.bipush 45, 2) := by decide +kernel
theorem dX8_readChannels_23 : decode cX8_readChannels 23 = .ok (.invokevirtual 102, 3) := by decide +kernel
theorem dX8_readChannels_26 : decode cX8_readChannels 26 = .ok (.ifCond .eq 14, 3) := by decide +kernel
theorem dX8_readChannels_29 : decode cX8_readChannels 29 = .ok (.aload_n 0, 1) := by decide +kernel
theorem dX8_readChannels_30 : decode cX8_readChannels 30 = .ok (.iload 4, 2) := by decide +kernel
theorem dX8_readChannels_32 : decode cX8_readChannels 32 = .ok (.bipush 64, 2) := by decide +kernel
theorem dX8_readChannels_34 : decode cX8_readChannels 34 = .ok (.invokevirtual 98, 3) := by decide +kernel
theorem dX8_readChannels_37 : decode cX8_readChannels 37 = .ok (.goto 5, 3) := by decide +kernel
theorem dX8_readChannels_40 : decode cX8_readChannels 40 = .ok (.iload 4, 2) := by decide +kernel
theorem dX8_readChannels_42 : decode cX8_readChannels 42 = .ok (.istore 5, 2) := by decide +kernel
theorem dX8_readChannels_44 : decode cX8_readChannels 44 = .ok (.lload_n 1, 1) := by decide +kernel
theorem dX8_readChannels_45 : decode cX8_readChannels 45 = .ok (.ldc2_w 167, 3) := by decide +kernel
theorem dX8_readChannels_48 : decode cX8_readChannels 48 = .ok (.bipush 63, 2) := by decide +kernel
theorem dX8_readChannels_50 : decode cX8_readChannels 50 = .ok (.iload 5, 2) := by decide +kernel
theorem dX8_readChannels_52 : decode cX8_readChannels 52 = .ok (.iload 4, 2) := by decide +kernel
theorem dX8_readChannels_54 : decode cX8_readChannels 54 = .ok (.isub, 1) := by decide +kernel
theorem dX8_readChannels_55 : decode cX8_readChannels 55 = .ok (.isub, 1) := by decide +kernel
theorem dX8_readChannels_56 : decode cX8_readChannels 56 = .ok (.lushr, 1) := by decide +kernel
theorem dX8_readChannels_57 : decode cX8_readChannels 57 = .ok (.iload 4, 2) := by decide +kernel
theorem dX8_readChannels_59 : decode cX8_readChannels 59 = .ok (.iconst 1, 1) := by decide +kernel
theorem dX8_readChannels_60 : decode cX8_readChannels 60 = .ok (.isub, 1) := by decide +kernel
theorem dX8_readChannels_61 : decode cX8_readChannels 61 = .ok (.lshl, 1) := by decide +kernel
theorem dX8_readChannels_62 : decode cX8_readChannels 62 = .ok (.lor, 1) := by decide +kernel
theorem dX8_readChannels_63 : decode cX8_readChannels 63 = .ok (.lstore_n 1, 1) := by decide +kernel
theorem dX8_readChannels_64 : decode cX8_readChannels 64 = .ok (.aload_n 0, 1) := by decide +kernel
theorem dX8_readChannels_65 : decode cX8_readChannels 65 = .ok (.bipush 44, 2) := by decide +kernel
theorem dX8_readChannels_67 : decode cX8_readChannels 67 = .ok (.invokevirtual 102, 3) := by decide +kernel
theorem dX8_readChannels_70 : decode cX8_readChannels 70 = .ok (.ifCond .ne 6, 3) := by decide +kernel
theorem dX8_readChannels_73 : decode cX8_readChannels 73 = .ok (.goto 9, 3) := by decide +kernel
theorem dX8_readChannels_76 : decode cX8_readChannels 76 = .ok (.iinc 3 1, 3) := by decide +kernel
theorem dX8_readChannels_79 : decode cX8_readChannels 79 = .ok (.goto (-75), 3) := by decide +kernel
theorem dX8_readChannels_82 : decode cX8_readChannels 82 = .ok (.lload_n 1, 1) := by decide +kernel
theorem dX8_readChannels_83 : decode cX8_readChannels 83 = .ok (.lreturn, 1) := by decide +kernel
theorem dX8_find_0 : decode cX8_find 0 = .ok (.iconst 0, 1) := by decide +kernel
theorem dX8_find_1 : decode cX8_find 1 = .ok (.istore_n 2, 1) := by decide +kernel
theorem dX8_find_2 : decode cX8_find 2 = .ok (.iload_n 2, 1) := by decide +kernel
theorem dX8_find_3 : decode cX8_find 3 = .ok (.aload_n 0, 1) := by decide +kernel
theorem dX8_find_4 : decode cX8_find 4 = .ok (.getfield 49, 3) := by decide +kernel
theorem dX8_find_7 : decode cX8_find 7 = .ok (.if_icmp .ge 21, 3) := by decide +kernel
theorem dX8_find_10 : decode cX8_find 10 = .ok (.aload_n 0, 1) := by decide +kernel
theorem dX8_find_11 : decode cX8_find 11 = .ok (.getfield 11, 3) := by decide +kernel
theorem dX8_find_14 : decode cX8_find 14 = .ok (.iload_n 2, 1) := by decide +kernel
theorem dX8_find_15 : decode cX8_find 15 = .ok (.iaload, 1) := by decide +kernel
theorem dX8_find_16 : decode cX8_find 16 = .ok (.iload_n 1, 1) := by decide +kernel
theorem dX8_find_17 : decode cX8_find 17 = .ok (.if_icmp .ne 5, 3) := by decide +kernel
theorem dX8_find_20 : decode cX8_find 20 = .ok (.iload_n 2, 1) := by decide +kernel
theorem dX8_find_21 : decode cX8_find 21 = .ok (.ireturn, 1) := by decide +kernel
theorem dX8_find_22 : decode cX8_find 22 = .ok (.iinc 2 1, 3) := by decide +kernel
theorem dX8_find_25 : decode cX8_find 25 = .ok (.goto (-23), 3) := by decide +kernel
theorem dX8_find_28 : decode cX8_find 28 = .ok (.iconst (-1), 1) := by decide +kernel
theorem dX8_find_29 : decode cX8_find 29 = .ok (.ireturn, 1) := by decide +kernel
theorem dX8_tracked_0 : decode cX8_tracked 0 = .ok (.iload_n 1, 1) := by decide +kernel
theorem dX8_tracked_1 : decode cX8_tracked 1 = .ok (.ifCond .lt 11, 3) := by decide +kernel
theorem dX8_tracked_4 : decode cX8_tracked 4 = .ok (.iload_n 1, 1) := by decide +kernel
theorem dX8_tracked_5 : decode cX8_tracked 5 = .ok (.aload_n 0, 1) := by decide +kernel
theorem dX8_tracked_6 : decode cX8_tracked 6 = .ok (.getfield 49, 3) := by decide +kernel
theorem dX8_tracked_9 : decode cX8_tracked 9 = .ok (.if_icmp .lt 5, 3) := by decide +kernel
theorem dX8_tracked_12 : decode cX8_tracked 12 = .ok (.iconst 0, 1) := by decide +kernel
theorem dX8_tracked_13 : decode cX8_tracked 13 = .ok (.ireturn, 1) := by decide +kernel
theorem dX8_tracked_14 : decode cX8_tracked 14 = .ok (.aload_n 0, 1) := by decide +kernel
theorem dX8_tracked_15 : decode cX8_tracked 15 = .ok (.getfield 33, 3) := by decide +kernel
theorem dX8_tracked_18 : decode cX8_tracked 18 = .ok (.iload_n 1, 1) := by decide +kernel
theorem dX8_tracked_19 : decode cX8_tracked 19 = .ok (.iconst 1, 1) := by decide +kernel
theorem dX8_tracked_20 : decode cX8_tracked 20 = .ok (.iadd, 1) := by decide +kernel
theorem dX8_tracked_21 : decode cX8_tracked 21 = .ok (.iaload, 1) := by decide +kernel
theorem dX8_tracked_22 : decode cX8_tracked 22 = .ok (.iconst 1, 1) := by decide +kernel
theorem dX8_tracked_23 : decode cX8_tracked 23 = .ok (.isub, 1) := by decide +kernel
theorem dX8_tracked_24 : decode cX8_tracked 24 = .ok (.istore_n 3, 1) := by decide +kernel
theorem dX8_tracked_25 : decode cX8_tracked 25 = .ok (.iload_n 3, 1) := by decide +kernel
theorem dX8_tracked_26 : decode cX8_tracked 26 = .ok (.aload_n 0, 1) := by decide +kernel
theorem dX8_tracked_27 : decode cX8_tracked 27 = .ok (.getfield 30, 3) := by decide +kernel
theorem dX8_tracked_30 : decode cX8_tracked 30 = .ok (.iload_n 1, 1) := by decide +kernel
theorem dX8_tracked_31 : decode cX8_tracked 31 = .ok (.iaload, 1) := by decide +kernel
theorem dX8_tracked_32 : decode cX8_tracked 32 = .ok (.if_icmp .lt 31, 3) := by decide +kernel
theorem dX8_tracked_35 : decode cX8_tracked 35 = .ok (.aload_n 0, 1) := by decide +kernel
theorem dX8_tracked_36 : decode cX8_tracked 36 = .ok (.getfield 45, 3) := by decide +kernel
theorem dX8_tracked_39 : decode cX8_tracked 39 = .ok (.iload_n 3, 1) := by decide +kernel
theorem dX8_tracked_40 : decode cX8_tracked 40 = .ok (.laload, 1) := by decide +kernel
theorem dX8_tracked_41 : decode cX8_tracked 41 = .ok (.iload_n 2, 1) := by decide +kernel
theorem dX8_tracked_42 : decode cX8_tracked 42 = .ok (.lushr, 1) := by decide +kernel
theorem dX8_tracked_43 : decode cX8_tracked 43 = .ok (.lconst 1, 1) := by decide +kernel
theorem dX8_tracked_44 : decode cX8_tracked 44 = .ok (.land, 1) := by decide +kernel
theorem dX8_tracked_45 : decode cX8_tracked 45 = .ok (.lconst 0, 1) := by decide +kernel
theorem dX8_tracked_46 : decode cX8_tracked 46 = .ok (.lcmp, 1) := by decide +kernel
theorem dX8_tracked_47 : decode cX8_tracked 47 = .ok (.ifCond .eq 10, 3) := by decide +kernel
theorem dX8_tracked_50 : decode cX8_tracked 50 = .ok (.aload_n 0, 1) := by decide +kernel
theorem dX8_tracked_51 : decode cX8_tracked 51 = .ok (.getfield 42, 3) := by decide +kernel
theorem dX8_tracked_54 : decode cX8_tracked 54 = .ok (.iload_n 3, 1) := by decide +kernel
theorem dX8_tracked_55 : decode cX8_tracked 55 = .ok (.iaload, 1) := by decide +kernel
theorem dX8_tracked_56 : decode cX8_tracked 56 = .ok (.ireturn, 1) := by decide +kernel
theorem dX8_tracked_57 : decode cX8_tracked 57 = .ok (.iinc 3 (-1), 3) := by decide +kernel
theorem dX8_tracked_60 : decode cX8_tracked 60 = .ok (.goto (-35), 3) := by decide +kernel
theorem dX8_tracked_63 : decode cX8_tracked 63 = .ok (.iconst 0, 1) := by decide +kernel
theorem dX8_tracked_64 : decode cX8_tracked 64 = .ok (.ireturn, 1) := by decide +kernel
theorem dX8_trackAll_0 : decode cX8_trackAll 0 = .ok (.aload_n 2, 1) := by decide +kernel
theorem dX8_trackAll_1 : decode cX8_trackAll 1 = .ok (.iconst 0, 1) := by decide +kernel
theorem dX8_trackAll_2 : decode cX8_trackAll 2 = .ok (.invokestatic 169, 3) := by decide +kernel
theorem dX8_trackAll_5 : decode cX8_trackAll 5 = .ok (.iload_n 1, 1) := by decide +kernel
theorem dX8_trackAll_6 : decode cX8_trackAll 6 = .ok (.ifCond .lt 18, 3) := by decide +kernel
theorem dX8_trackAll_9 : decode cX8_trackAll 9 = .ok (.iload_n 1, 1) := by decide +kernel
theorem dX8_trackAll_10 : decode cX8_trackAll 10 = .ok (.aload_n 0, 1) := by decide +kernel
theorem dX8_trackAll_11 : decode cX8_trackAll 11 = .ok (.getfield 49, 3) := by decide +kernel
theorem dX8_trackAll_14 : decode cX8_trackAll 14 = .ok (.if_icmp .ge 10, 3) := by decide +kernel
theorem dX8_trackAll_17 : decode cX8_trackAll 17 = .ok (.aload_n 2, 1) := by decide +kernel
theorem dX8_trackAll_18 : decode cX8_trackAll 18 = .ok (.arraylength, 1) := by decide +kernel
theorem dX8_trackAll_19 : decode cX8_trackAll 19 = .ok (.bipush 64, 2) := by decide +kernel
theorem dX8_trackAll_21 : decode cX8_trackAll 21 = .ok (.if_icmp .ge 4, 3) := by decide +kernel
theorem dX8_trackAll_24 : decode cX8_trackAll 24 = .ok (.return_, 1) := by decide +kernel
theorem dX8_trackAll_25 : decode cX8_trackAll 25 = .ok (.ldc2_w 167, 3) := by decide +kernel
theorem dX8_trackAll_28 : decode cX8_trackAll 28 = .ok (.lstore_n 3, 1) := by decide +kernel
theorem dX8_trackAll_29 : decode cX8_trackAll 29 = .ok (.aload_n 0, 1) := by decide +kernel
theorem dX8_trackAll_30 : decode cX8_trackAll 30 = .ok (.getfield 33, 3) := by decide +kernel
theorem dX8_trackAll_33 : decode cX8_trackAll 33 = .ok (.iload_n 1, 1) := by decide +kernel
theorem dX8_trackAll_34 : decode cX8_trackAll 34 = .ok (.iconst 1, 1) := by decide +kernel
theorem dX8_trackAll_35 : decode cX8_trackAll 35 = .ok (.iadd, 1) := by decide +kernel
theorem dX8_trackAll_36 : decode cX8_trackAll 36 = .ok (.iaload, 1) := by decide +kernel
theorem dX8_trackAll_37 : decode cX8_trackAll 37 = .ok (.iconst 1, 1) := by decide +kernel
theorem dX8_trackAll_38 : decode cX8_trackAll 38 = .ok (.isub, 1) := by decide +kernel
theorem dX8_trackAll_39 : decode cX8_trackAll 39 = .ok (.istore 5, 2) := by decide +kernel
theorem dX8_trackAll_41 : decode cX8_trackAll 41 = .ok (.iload 5, 2) := by decide +kernel
theorem dX8_trackAll_43 : decode cX8_trackAll 43 = .ok (.aload_n 0, 1) := by decide +kernel
theorem dX8_trackAll_44 : decode cX8_trackAll 44 = .ok (.getfield 30, 3) := by decide +kernel
theorem dX8_trackAll_47 : decode cX8_trackAll 47 = .ok (.iload_n 1, 1) := by decide +kernel
theorem dX8_trackAll_48 : decode cX8_trackAll 48 = .ok (.iaload, 1) := by decide +kernel
theorem dX8_trackAll_49 : decode cX8_trackAll 49 = .ok (.if_icmp .lt 79, 3) := by decide +kernel
theorem dX8_trackAll_52 : decode cX8_trackAll 52 = .ok (.lload_n 3, 1) := by decide +kernel
theorem dX8_trackAll_53 : decode cX8_trackAll 53 = .ok (.lconst 0, 1) := by decide +kernel
theorem dX8_trackAll_54 : decode cX8_trackAll 54 = .ok (.lcmp, 1) := by decide +kernel
theorem dX8_trackAll_55 : decode cX8_trackAll 55 = .ok (.ifCond .eq 73, 3) := by decide +kernel
theorem dX8_trackAll_58 : decode cX8_trackAll 58 = .ok (.aload_n 0, 1) := by decide +kernel
theorem dX8_trackAll_59 : decode cX8_trackAll 59 = .ok (.getfield 45, 3) := by decide +kernel
theorem dX8_trackAll_62 : decode cX8_trackAll 62 = .ok (.iload 5, 2) := by decide +kernel
theorem dX8_trackAll_64 : decode cX8_trackAll 64 = .ok (.laload, 1) := by decide +kernel
theorem dX8_trackAll_65 : decode cX8_trackAll 65 = .ok (.lload_n 3, 1) := by decide +kernel
theorem dX8_trackAll_66 : decode cX8_trackAll 66 = .ok (.land, 1) := by decide +kernel
theorem dX8_trackAll_67 : decode cX8_trackAll 67 = .ok (.lstore 6, 2) := by decide +kernel
theorem dX8_trackAll_69 : decode cX8_trackAll 69 = .ok (.lload_n 3, 1) := by decide +kernel
theorem dX8_trackAll_70 : decode cX8_trackAll 70 = .ok (.lload 6, 2) := by decide +kernel
theorem dX8_trackAll_72 : decode cX8_trackAll 72 = .ok (.ldc2_w 167, 3) := by decide +kernel
theorem dX8_trackAll_75 : decode cX8_trackAll 75 = .ok (.lxor, 1) := by decide +kernel
theorem dX8_trackAll_76 : decode cX8_trackAll 76 = .ok (.land, 1) := by decide +kernel
theorem dX8_trackAll_77 : decode cX8_trackAll 77 = .ok (.lstore_n 3, 1) := by decide +kernel
theorem dX8_trackAll_78 : decode cX8_trackAll 78 = .ok (.lload 6, 2) := by decide +kernel
theorem dX8_trackAll_80 : decode cX8_trackAll 80 = .ok (.invokestatic 175, 3) := by decide +kernel
theorem dX8_trackAll_83 : decode cX8_trackAll 83 = .ok (.istore 8, 2) := by decide +kernel
theorem dX8_trackAll_85 : decode cX8_trackAll 85 = .ok (.iload 8, 2) := by decide +kernel
theorem dX8_trackAll_87 : decode cX8_trackAll 87 = .ok (.ifCond .le 35, 3) := by decide +kernel
theorem dX8_trackAll_90 : decode cX8_trackAll 90 = .ok (.aload_n 2, 1) := by decide +kernel
theorem dX8_trackAll_91 : decode cX8_trackAll 91 = .ok (.lload 6, 2) := by decide +kernel
theorem dX8_trackAll_93 : decode cX8_trackAll 93 = .ok (.invokestatic 181, 3) := by decide +kernel
theorem dX8_trackAll_96 : decode cX8_trackAll 96 = .ok (.bipush 63, 2) := by decide +kernel
theorem dX8_trackAll_98 : decode cX8_trackAll 98 = .ok (.iand, 1) := by decide +kernel
theorem dX8_trackAll_99 : decode cX8_trackAll 99 = .ok (.aload_n 0, 1) := by decide +kernel
theorem dX8_trackAll_100 : decode cX8_trackAll 100 = .ok (.getfield 42, 3) := by decide +kernel
theorem dX8_trackAll_103 : decode cX8_trackAll 103 = .ok (.iload 5, 2) := by decide +kernel
theorem dX8_trackAll_105 : decode cX8_trackAll 105 = .ok (.iaload, 1) := by decide +kernel
theorem dX8_trackAll_106 : decode cX8_trackAll 106 = .ok (.iastore, 1) := by decide +kernel
theorem dX8_trackAll_107 : decode cX8_trackAll 107 = .ok (.lload 6, 2) := by decide +kernel
theorem dX8_trackAll_109 : decode cX8_trackAll 109 = .ok (.lload 6, 2) := by decide +kernel
theorem dX8_trackAll_111 : decode cX8_trackAll 111 = .ok (.lconst 1, 1) := by decide +kernel
theorem dX8_trackAll_112 : decode cX8_trackAll 112 = .ok (.lsub, 1) := by decide +kernel
theorem dX8_trackAll_113 : decode cX8_trackAll 113 = .ok (.land, 1) := by decide +kernel
theorem dX8_trackAll_114 : decode cX8_trackAll 114 = .ok (.lstore 6, 2) := by decide +kernel
theorem dX8_trackAll_116 : decode cX8_trackAll 116 = .ok (.iinc 8 (-1), 3) := by decide +kernel
theorem dX8_trackAll_119 : decode cX8_trackAll 119 = .ok (.goto (-34), 3) := by decide +kernel
theorem dX8_trackAll_122 : decode cX8_trackAll 122 = .ok (.iinc 5 (-1), 3) := by decide +kernel
theorem dX8_trackAll_125 : decode cX8_trackAll 125 = .ok (.goto (-84), 3) := by decide +kernel
theorem dX8_trackAll_128 : decode cX8_trackAll 128 = .ok (.return_, 1) := by decide +kernel
theorem dX9_init_0 : decode cX9_init 0 = .ok (.aload_n 0, 1) := by decide +kernel
theorem dX9_init_1 : decode cX9_init 1 = .ok (.invokespecial 3, 3) := by decide +kernel
theorem dX9_init_4 : decode cX9_init 4 = .ok (.aload_n 0, 1) := by decide +kernel
theorem dX9_init_5 : decode cX9_init 5 = .ok (.sipush 4000, 3) := by decide +kernel
theorem dX9_init_8 : decode cX9_init 8 = .ok (.newarray .byte, 2) := by decide +kernel
theorem dX9_init_10 : decode cX9_init 10 = .ok (.putfield 11, 3) := by decide +kernel
theorem dX9_init_13 : decode cX9_init 13 = .ok (.return_, 1) := by decide +kernel
theorem dX9_hasRoom_0 : decode cX9_hasRoom 0 = .ok (.aload_n 0, 1) := by decide +kernel
theorem dX9_hasRoom_1 : decode cX9_hasRoom 1 = .ok (.getfield 15, 3) := by decide +kernel
theorem dX9_hasRoom_4 : decode cX9_hasRoom 4 = .ok (.bipush 20, 2) := by decide +kernel
theorem dX9_hasRoom_6 : decode cX9_hasRoom 6 = .ok (.iadd, 1) := by decide +kernel
theorem dX9_hasRoom_7 : decode cX9_hasRoom 7 = .ok (.sipush 4000, 3) := by decide +kernel
theorem dX9_hasRoom_10 : decode cX9_hasRoom 10 = .ok (.if_icmp .gt 7, 3) := by decide +kernel
theorem dX9_hasRoom_13 : decode cX9_hasRoom 13 = .ok (.iconst 1, 1) := by decide +kernel
theorem dX9_hasRoom_14 : decode cX9_hasRoom 14 = .ok (.goto 4, 3) := by decide +kernel
theorem dX9_hasRoom_17 : decode cX9_hasRoom 17 = .ok (.iconst 0, 1) := by decide +kernel
theorem dX9_hasRoom_18 : decode cX9_hasRoom 18 = .ok (.ireturn, 1) := by decide +kernel
theorem dX9_append_0 : decode cX9_append 0 = .ok (.bipush 24, 2) := by decide +kernel
theorem dX9_append_2 : decode cX9_append 2 = .ok (.istore_n 2, 1) := by decide +kernel
theorem dX9_append_3 : decode cX9_append 3 = .ok (.iload_n 2, 1) := by decide +kernel
theorem dX9_append_4 : decode cX9_append 4 = .ok (.ifCond .lt 42, 3) := by decide +kernel
theorem dX9_append_7 : decode cX9_append 7 = .ok (.aload_n 0, 1) := by decide +kernel
theorem dX9_append_8 : decode cX9_append 8 = .ok (.getfield 15, 3) := by decide +kernel
theorem dX9_append_11 : decode cX9_append 11 = .ok (.sipush 4000, 3) := by decide +kernel
theorem dX9_append_14 : decode cX9_append 14 = .ok (.if_icmp .ge 32, 3) := by decide +kernel
theorem dX9_append_17 : decode cX9_append 17 = .ok (.aload_n 0, 1) := by decide +kernel
theorem dX9_append_18 : decode cX9_append 18 = .ok (.getfield 11, 3) := by decide +kernel
theorem dX9_append_21 : decode cX9_append 21 = .ok (.aload_n 0, 1) := by decide +kernel
theorem dX9_append_22 : decode cX9_append 22 = .ok (.getfield 15, 3) := by decide +kernel
theorem dX9_append_25 : decode cX9_append 25 = .ok (.iload_n 1, 1) := by decide +kernel
theorem dX9_append_26 : decode cX9_append 26 = .ok (.iload_n 2, 1) := by decide +kernel
theorem dX9_append_27 : decode cX9_append 27 = .ok (.ishr, 1) := by decide +kernel
theorem dX9_append_28 : decode cX9_append 28 = .ok (.i2b, 1) := by decide +kernel
theorem dX9_append_29 : decode cX9_append 29 = .ok (.bastore, 1) := by decide +kernel
theorem dX9_append_30 : decode cX9_append 30 = .ok (.aload_n 0, 1) := by decide +kernel
theorem dX9_append_31 : decode cX9_append 31 = .ok (.dup, 1) := by decide +kernel
theorem dX9_append_32 : decode cX9_append 32 = .ok (.getfield 15, 3) := by decide +kernel
theorem dX9_append_35 : decode cX9_append 35 = .ok (.iconst 1, 1) := by decide +kernel
theorem dX9_append_36 : decode cX9_append 36 = .ok (.iadd, 1) := by decide +kernel
theorem dX9_append_37 : decode cX9_append 37 = .ok (.putfield 15, 3) := by decide +kernel
theorem dX9_append_40 : decode cX9_append 40 = .ok (.iinc 2 (-8), 3) := by decide +kernel
theorem dX9_append_43 : decode cX9_append 43 = .ok (.goto (-40), 3) := by decide +kernel
theorem dX9_append_46 : decode cX9_append 46 = .ok (.return_, 1) := by decide +kernel
theorem dX9_open_0 : decode cX9_open 0 = .ok (.aload_n 0, 1) := by decide +kernel
theorem dX9_open_1 : decode cX9_open 1 = .ok (.iload_n 1, 1) := by decide +kernel
theorem dX9_open_2 : decode cX9_open 2 = .ok (.putfield 19, 3) := by decide +kernel
theorem dX9_open_5 : decode cX9_open 5 = .ok (.aload_n 0, 1) := by decide +kernel
theorem dX9_open_6 : decode cX9_open 6 = .ok (.iconst (-1), 1) := by decide +kernel
theorem dX9_open_7 : decode cX9_open 7 = .ok (.putfield 22, 3) := by decide +kernel
theorem dX9_open_10 : decode cX9_open 10 = .ok (.aload_n 0, 1) := by decide +kernel
theorem dX9_open_11 : decode cX9_open 11 = .ok (.iconst 0, 1) := by decide +kernel
theorem dX9_open_12 : decode cX9_open 12 = .ok (.putfield 25, 3) := by decide +kernel
theorem dX9_open_15 : decode cX9_open 15 = .ok (.aload_n 0, 1) := by decide +kernel
theorem dX9_open_16 : decode cX9_open 16 = .ok (.iconst 0, 1) := by decide +kernel
theorem dX9_open_17 : decode cX9_open 17 = .ok (.putfield 28, 3) := by decide +kernel
theorem dX9_open_20 : decode cX9_open 20 = .ok (.aload_n 0, 1) := by decide +kernel
theorem dX9_open_21 : decode cX9_open 21 = .ok (.iconst 0, 1) := by decide +kernel
theorem dX9_open_22 : decode cX9_open 22 = .ok (.putfield 31, 3) := by decide +kernel
theorem dX9_open_25 : decode cX9_open 25 = .ok (.aload_n 0, 1) := by decide +kernel
theorem dX9_open_26 : decode cX9_open 26 = .ok (.invokevirtual 34, 3) := by decide +kernel
theorem dX9_open_29 : decode cX9_open 29 = .ok (.return_, 1) := by decide +kernel
theorem dX9_fail_0 : decode cX9_fail 0 = .ok (.aload_n 0, 1) := by decide +kernel
theorem dX9_fail_1 : decode cX9_fail 1 = .ok (.getfield 25, 3) := by decide +kernel
theorem dX9_fail_4 : decode cX9_fail 4 = .ok (.ifCond .ne 13, 3) := by decide +kernel
theorem dX9_fail_7 : decode cX9_fail 7 = .ok (.aload_n 0, 1) := by decide +kernel
theorem dX9_fail_8 : decode cX9_fail 8 = .ok (.iload_n 1, 1) := by decide +kernel
theorem dX9_fail_9 : decode cX9_fail 9 = .ok (.putfield 25, 3) := by decide +kernel
theorem dX9_fail_12 : decode cX9_fail 12 = .ok (.aload_n 0, 1) := by decide +kernel
theorem dX9_fail_13 : decode cX9_fail 13 = .ok (.iload_n 2, 1) := by decide +kernel
theorem dX9_fail_14 : decode cX9_fail 14 = .ok (.putfield 28, 3) := by decide +kernel
theorem dX9_fail_17 : decode cX9_fail 17 = .ok (.aload_n 0, 1) := by decide +kernel
theorem dX9_fail_18 : decode cX9_fail 18 = .ok (.iconst 0, 1) := by decide +kernel
theorem dX9_fail_19 : decode cX9_fail 19 = .ok (.putfield 37, 3) := by decide +kernel
theorem dX9_fail_22 : decode cX9_fail 22 = .ok (.aload_n 0, 1) := by decide +kernel
theorem dX9_fail_23 : decode cX9_fail 23 = .ok (.aload_n 0, 1) := by decide +kernel
theorem dX9_fail_24 : decode cX9_fail 24 = .ok (.getfield 15, 3) := by decide +kernel
theorem dX9_fail_27 : decode cX9_fail 27 = .ok (.putfield 40, 3) := by decide +kernel
theorem dX9_fail_30 : decode cX9_fail 30 = .ok (.aload_n 0, 1) := by decide +kernel
theorem dX9_fail_31 : decode cX9_fail 31 = .ok (.aload_n 0, 1) := by decide +kernel
theorem dX9_fail_32 : decode cX9_fail 32 = .ok (.getfield 15, 3) := by decide +kernel
theorem dX9_fail_35 : decode cX9_fail 35 = .ok (.putfield 31, 3) := by decide +kernel
theorem dX9_fail_38 : decode cX9_fail 38 = .ok (.return_, 1) := by decide +kernel
theorem dX9_next_0 : decode cX9_next 0 = .ok (.aload_n 0, 1) := by decide +kernel
theorem dX9_next_1 : decode cX9_next 1 = .ok (.dup, 1) := by decide +kernel
theorem dX9_next_2 : decode cX9_next 2 = .ok (.getfield 22, 3) := by decide +kernel
theorem dX9_next_5 : decode cX9_next 5 = .ok (.iconst 1, 1) := by decide +kernel
theorem dX9_next_6 : decode cX9_next 6 = .ok (.iadd, 1) := by decide +kernel
theorem dX9_next_7 : decode cX9_next 7 = .ok (.putfield 22, 3) := by decide +kernel
theorem dX9_next_10 : decode cX9_next 10 = .ok (.aload_n 0, 1) := by decide +kernel
theorem dX9_next_11 : decode cX9_next 11 = .ok (.getfield 22, 3) := by decide +kernel
theorem dX9_next_14 : decode cX9_next 14 = .ok (.aload_n 0, 1) := by decide +kernel
theorem dX9_next_15 : decode cX9_next 15 = .ok (.getfield 19, 3) := by decide +kernel
theorem dX9_next_18 : decode cX9_next 18 = .ok (.if_icmp .le 13, 3) := by decide +kernel
theorem dX9_next_21 : decode cX9_next 21 = .ok (.aload_n 0, 1) := by decide +kernel
theorem dX9_next_22 : decode cX9_next 22 = .ok (.iconst 2, 1) := by decide +kernel
theorem dX9_next_23 : decode cX9_next 23 = .ok (.aload_n 0, 1) := by decide +kernel
theorem dX9_next_24 : decode cX9_next 24 = .ok (.getfield 40, 3) := by decide +kernel
theorem dX9_next_27 : decode cX9_next 27 = .ok (.invokevirtual 43, 3) := by decide +kernel
theorem dX9_next_30 : decode cX9_next 30 = .ok (.return_, 1) := by decide +kernel
theorem dX9_next_31 : decode cX9_next 31 = .ok (.aload_n 0, 1) := by decide +kernel
theorem dX9_next_32 : decode cX9_next 32 = .ok (.getfield 31, 3) := by decide +kernel
theorem dX9_next_35 : decode cX9_next 35 = .ok (.istore_n 1, 1) := by decide +kernel
theorem dX9_next_36 : decode cX9_next 36 = .ok (.iload_n 1, 1) := by decide +kernel
theorem dX9_next_37 : decode cX9_next 37 = .ok (.aload_n 0, 1) := by decide +kernel
theorem dX9_next_38 : decode cX9_next 38 = .ok (.getfield 15, 3) := by decide +kernel
theorem dX9_next_41 : decode cX9_next 41 = .ok (.if_icmp .ge 21, 3) := by decide +kernel
theorem dX9_next_44 : decode cX9_next 44 = .ok (.aload_n 0, 1) := by decide +kernel
theorem dX9_next_45 : decode cX9_next 45 = .ok (.getfield 11, 3) := by decide +kernel
theorem dX9_next_48 : decode cX9_next 48 = .ok (.iload_n 1, 1) := by decide +kernel
theorem dX9_next_49 : decode cX9_next 49 = .ok (.baload, 1) := by decide +kernel
theorem dX9_next_50 : decode cX9_next 50 = .ok (.invokestatic 47, 3) := by decide +kernel
theorem dX9_next_53 : decode cX9_next 53 = .ok (.ifCond .eq 9, 3) := by decide +kernel
theorem dX9_next_56 : decode cX9_next 56 = .ok (.iinc 1 1, 3) := by decide +kernel
theorem dX9_next_59 : decode cX9_next 59 = .ok (.goto (-23), 3) := by decide +kernel
theorem dX9_next_62 : decode cX9_next 62 = .ok (.aload_n 0, 1) := by decide +kernel
theorem dX9_next_63 : decode cX9_next 63 = .ok (.iload_n 1, 1) := by decide +kernel
theorem dX9_next_64 : decode cX9_next 64 = .ok (.putfield 40, 3) := by decide +kernel
theorem dX9_next_67 : decode cX9_next 67 = .ok (.iload_n 1, 1) := by decide +kernel
theorem dX9_next_68 : decode cX9_next 68 = .ok (.aload_n 0, 1) := by decide +kernel
theorem dX9_next_69 : decode cX9_next 69 = .ok (.getfield 15, 3) := by decide +kernel
theorem dX9_next_72 : decode cX9_next 72 = .ok (.if_icmp .lt 17, 3) := by decide +kernel
theorem dX9_next_75 : decode cX9_next 75 = .ok (.aload_n 0, 1) := by decide +kernel
theorem dX9_next_76 : decode cX9_next 76 = .ok (.iconst 0, 1) := by decide +kernel
theorem dX9_next_77 : decode cX9_next 77 = .ok (.putfield 37, 3) := by decide +kernel
theorem dX9_next_80 : decode cX9_next 80 = .ok (.aload_n 0, 1) := by decide +kernel
theorem dX9_next_81 : decode cX9_next 81 = .ok (.aload_n 0, 1) := by decide +kernel
theorem dX9_next_82 : decode cX9_next 82 = .ok (.getfield 15, 3) := by decide +kernel
theorem dX9_next_85 : decode cX9_next 85 = .ok (.putfield 31, 3) := by decide +kernel
theorem dX9_next_88 : decode cX9_next 88 = .ok (.return_, 1) := by decide +kernel
theorem dX9_next_89 : decode cX9_next 89 = .ok (.aload_n 0, 1) := by decide +kernel
theorem dX9_next_90 : decode cX9_next 90 = .ok (.getfield 11, 3) := by decide +kernel
theorem dX9_next_93 : decode cX9_next 93 = .ok (.iload_n 1, 1) := by decide +kernel
theorem dX9_next_94 : decode cX9_next 94 = .ok (.baload, 1) := by decide +kernel
theorem dX9_next_95 : decode cX9_next 95 = .ok (.istore_n 2, 1) := by decide +kernel
theorem dX9_next_96 : decode cX9_next 96 = .ok (.iload_n 2, 1) := by decide +kernel
theorem dX9_next_97 : decode cX9_next 97 = .ok (.bipush 97, 2) := by decide +kernel
theorem dX9_next_99 : decode cX9_next 99 = .ok (.if_icmp .lt 16, 3) := by decide +kernel
theorem dX9_next_102 : decode cX9_next 102 = .ok (.iload_n 2, 1) := by decide +kernel
theorem dX9_next_103 : decode cX9_next 103 = .ok (.bipush 122, 2) := by decide +kernel
theorem dX9_next_105 : decode cX9_next 105 = .ok (.if_icmp .gt 10, 3) := by decide +kernel
theorem dX9_next_108 : decode cX9_next 108 = .ok (.aload_n 0, 1) := by decide +kernel
theorem dX9_next_109 : decode cX9_next 109 = .ok (.invokevirtual 51, 3) := by decide +kernel
theorem dX9_next_112 : decode cX9_next 112 = .ok (.goto 57, 3) := by decide +kernel
theorem dX9_next_115 : decode cX9_next 115 = .ok (.iload_n 2, 1) := by decide +kernel
theorem dX9_next_116 : decode cX9_next 116 = .ok (.bipush 48, 2) := by decide +kernel
theorem dX9_next_118 : decode cX9_next 118 = .ok (.if_icmp .lt 16, 3) := by decide +kernel
theorem dX9_next_121 : decode cX9_next 121 = .ok (.iload_n 2, 1) := by decide +kernel
theorem dX9_next_122 : decode cX9_next 122 = .ok (.bipush 57, 2) := by decide +kernel
theorem dX9_next_124 : decode cX9_next 124 = .ok (.if_icmp .gt 10, 3) := by decide +kernel
theorem dX9_next_127 : decode cX9_next 127 = .ok (.aload_n 0, 1) := by decide +kernel
theorem dX9_next_128 : decode cX9_next 128 = .ok (.invokevirtual 54, 3) := by decide +kernel
theorem dX9_next_131 : decode cX9_next 131 = .ok (.goto 38, 3) := by decide +kernel
theorem dX9_next_134 : decode cX9_next 134 = .ok (.aload_n 0, 1) := by decide +kernel
theorem dX9_next_135 : decode cX9_next 135 = .ok (.iload_n 2, 1) := by decide +kernel
theorem dX9_next_136 : decode cX9_next 136 = .ok (.ifCond .le 17, 3) := by decide +kernel
theorem dX9_next_139 : decode cX9_next 139 = .ok (.ldc 57, 2) := by decide +kernel
theorem dX9_next_141 : decode cX9_next 141 = .ok (.iload_n 2, 1) := by decide +kernel
theorem dX9_next_142 : decode cX9_next 142 = .ok (.i2c, 1) := by decide +kernel
theorem dX9_next_143 : decode cX9_next 143 = .ok (.invokevirtual 59, 3) := by decide +kernel
theorem dX9_next_146 : decode cX9_next 146 = .ok (.ifCond .lt 7, 3) := by decide +kernel
theorem dX9_next_149 : decode cX9_next 149 = .ok (.iconst 3, 1) := by decide +kernel
theorem dX9_next_150 : decode cX9_next 150 = .ok (.goto 4, 3) := by decide +kernel
theorem dX9_next_153 : decode cX9_next 153 = .ok (.iconst 4, 1) := by decide +kernel
theorem dX9_next_154 : decode cX9_next 154 = .ok (.putfield 37, 3) := by decide +kernel
theorem dX9_next_157 : decode cX9_next 157 = .ok (.aload_n 0, 1) := by decide +kernel
theorem dX9_next_158 : decode cX9_next 158 = .ok (.iload_n 2, 1) := by decide +kernel
theorem dX9_next_159 : decode cX9_next 159 = .ok (.putfield 65, 3) := by decide +kernel
theorem dX9_next_162 : decode cX9_next 162 = .ok (.aload_n 0, 1) := by decide +kernel
theorem dX9_next_163 : decode cX9_next 163 = .ok (.iload_n 1, 1) := by decide +kernel
theorem dX9_next_164 : decode cX9_next 164 = .ok (.iconst 1, 1) := by decide +kernel
theorem dX9_next_165 : decode cX9_next 165 = .ok (.iadd, 1) := by decide +kernel
theorem dX9_next_166 : decode cX9_next 166 = .ok (.putfield 31, 3) := by decide +kernel
theorem dX9_next_169 : decode cX9_next 169 = .ok (.return_, 1) := by decide +kernel
theorem dX9_isBlank_0 : decode cX9_isBlank 0 = .ok (.iload_n 0, 1) := by decide +kernel
theorem dX9_isBlank_1 : decode cX9_isBlank 1 = .ok (.bipush 32, 2) := by decide +kernel
theorem dX9_isBlank_3 : decode cX9_isBlank 3 = .ok (.if_icmp .eq 21, 3) := by decide +kernel
theorem dX9_isBlank_6 : decode cX9_isBlank 6 = .ok (.iload_n 0, 1) := by decide +kernel
theorem dX9_isBlank_7 : decode cX9_isBlank 7 = .ok (.bipush 9, 2) := by decide +kernel
theorem dX9_isBlank_9 : decode cX9_isBlank 9 = .ok (.if_icmp .eq 15, 3) := by decide +kernel
theorem dX9_isBlank_12 : decode cX9_isBlank 12 = .ok (.iload_n 0, 1) := by decide +kernel
theorem dX9_isBlank_13 : decode cX9_isBlank 13 = .ok (.bipush 13, 2) := by decide +kernel
theorem dX9_isBlank_15 : decode cX9_isBlank 15 = .ok (.if_icmp .eq 9, 3) := by decide +kernel
theorem dX9_isBlank_18 : decode cX9_isBlank 18 = .ok (.iload_n 0, 1) := by decide +kernel
theorem dX9_isBlank_19 : decode cX9_isBlank 19 = .ok (.bipush 10, 2) := by decide +kernel
theorem dX9_isBlank_21 : decode cX9_isBlank 21 = .ok (.if_icmp .ne 7, 3) := by decide +kernel
theorem dX9_isBlank_24 : decode cX9_isBlank 24 = .ok (.iconst 1, 1) := by decide +kernel
theorem dX9_isBlank_25 : decode cX9_isBlank 25 = .ok (.goto 4, 3) := by decide +kernel
theorem dX9_isBlank_28 : decode cX9_isBlank 28 = .ok (.iconst 0, 1) := by decide +kernel
theorem dX9_isBlank_29 : decode cX9_isBlank 29 = .ok (.ireturn, 1) := by decide +kernel
theorem dX9_scanWord_0 : decode cX9_scanWord 0 = .ok (.aload_n 0, 1) := by decide +kernel
theorem dX9_scanWord_1 : decode cX9_scanWord 1 = .ok (.getfield 40, 3) := by decide +kernel
theorem dX9_scanWord_4 : decode cX9_scanWord 4 = .ok (.istore_n 1, 1) := by decide +kernel
theorem dX9_scanWord_5 : decode cX9_scanWord 5 = .ok (.iload_n 1, 1) := by decide +kernel
theorem dX9_scanWord_6 : decode cX9_scanWord 6 = .ok (.aload_n 0, 1) := by decide +kernel
theorem dX9_scanWord_7 : decode cX9_scanWord 7 = .ok (.getfield 15, 3) := by decide +kernel
theorem dX9_scanWord_10 : decode cX9_scanWord 10 = .ok (.if_icmp .ge 31, 3) := by decide +kernel
theorem dX9_scanWord_13 : decode cX9_scanWord 13 = .ok (.aload_n 0, 1) := by decide +kernel
theorem dX9_scanWord_14 : decode cX9_scanWord 14 = .ok (.getfield 11, 3) := by decide +kernel
theorem dX9_scanWord_17 : decode cX9_scanWord 17 = .ok (.iload_n 1, 1) := by decide +kernel
theorem dX9_scanWord_18 : decode cX9_scanWord 18 = .ok (.baload, 1) := by decide +kernel
theorem dX9_scanWord_19 : decode cX9_scanWord 19 = .ok (.bipush 97, 2) := by decide +kernel
theorem dX9_scanWord_21 : decode cX9_scanWord 21 = .ok (.if_icmp .lt 20, 3) := by decide +kernel
theorem dX9_scanWord_24 : decode cX9_scanWord 24 = .ok (.aload_n 0, 1) := by decide +kernel
theorem dX9_scanWord_25 : decode cX9_scanWord 25 = .ok (.getfield 11, 3) := by decide +kernel
theorem dX9_scanWord_28 : decode cX9_scanWord 28 = .ok (.iload_n 1, 1) := by decide +kernel
theorem dX9_scanWord_29 : decode cX9_scanWord 29 = .ok (.baload, 1) := by decide +kernel
theorem dX9_scanWord_30 : decode cX9_scanWord 30 = .ok (.bipush 122, 2) := by decide +kernel
theorem dX9_scanWord_32 : decode cX9_scanWord 32 = .ok (.if_icmp .gt 9, 3) := by decide +kernel
theorem dX9_scanWord_35 : decode cX9_scanWord 35 = .ok (.iinc 1 1, 3) := by decide +kernel
theorem dX9_scanWord_38 : decode cX9_scanWord 38 = .ok (.goto (-33), 3) := by decide +kernel
theorem dX9_scanWord_41 : decode cX9_scanWord 41 = .ok (.aload_n 0, 1) := by decide +kernel
theorem dX9_scanWord_42 : decode cX9_scanWord 42 = .ok (.iload_n 1, 1) := by decide +kernel
theorem dX9_scanWord_43 : decode cX9_scanWord 43 = .ok (.aload_n 0, 1) := by decide +kernel
theorem dX9_scanWord_44 : decode cX9_scanWord 44 = .ok (.getfield 40, 3) := by decide +kernel
theorem dX9_scanWord_47 : decode cX9_scanWord 47 = .ok (.isub, 1) := by decide +kernel
theorem dX9_scanWord_48 : decode cX9_scanWord 48 = .ok (.bipush 12, 2) := by decide +kernel
theorem dX9_scanWord_50 : decode cX9_scanWord 50 = .ok (.if_icmp .gt 7, 3) := by decide +kernel
theorem dX9_scanWord_53 : decode cX9_scanWord 53 = .ok (.iconst 1, 1) := by decide +kernel
theorem dX9_scanWord_54 : decode cX9_scanWord 54 = .ok (.goto 4, 3) := by decide +kernel
theorem dX9_scanWord_57 : decode cX9_scanWord 57 = .ok (.iconst 4, 1) := by decide +kernel
theorem dX9_scanWord_58 : decode cX9_scanWord 58 = .ok (.putfield 37, 3) := by decide +kernel
theorem dX9_scanWord_61 : decode cX9_scanWord 61 = .ok (.aload_n 0, 1) := by decide +kernel
theorem dX9_scanWord_62 : decode cX9_scanWord 62 = .ok (.iload_n 1, 1) := by decide +kernel
theorem dX9_scanWord_63 : decode cX9_scanWord 63 = .ok (.putfield 31, 3) := by decide +kernel
theorem dX9_scanWord_66 : decode cX9_scanWord 66 = .ok (.return_, 1) := by decide +kernel
theorem dX9_scanNumber_0 : decode cX9_scanNumber 0 = .ok (.aload_n 0, 1) := by decide +kernel
theorem dX9_scanNumber_1 : decode cX9_scanNumber 1 = .ok (.getfield 40, 3) := by decide +kernel
theorem dX9_scanNumber_4 : decode cX9_scanNumber 4 = .ok (.istore_n 1, 1) := by decide +kernel
theorem dX9_scanNumber_5 : decode cX9_scanNumber 5 = .ok (.iconst 0, 1) := by decide +kernel
theorem dX9_scanNumber_6 : decode cX9_scanNumber 6 = .ok (.istore_n 2, 1) := by decide +kernel
theorem dX9_scanNumber_7 : decode cX9_scanNumber 7 = .ok (.iload_n 1, 1) := by decide +kernel
theorem dX9_scanNumber_8 : decode cX9_scanNumber 8 = .ok (.aload_n 0, 1) := by decide +kernel
theorem dX9_scanNumber_9 : decode cX9_scanNumber 9 = .ok (.getfield 15, 3) := by decide +kernel
theorem dX9_scanNumber_12 : decode cX9_scanNumber 12 = .ok (.if_icmp .ge 51, 3) := by decide +kernel
theorem dX9_scanNumber_15 : decode cX9_scanNumber 15 = .ok (.aload_n 0, 1) := by decide +kernel
theorem dX9_scanNumber_16 : decode cX9_scanNumber 16 = .ok (.getfield 11, 3) := by decide +kernel
theorem dX9_scanNumber_19 : decode cX9_scanNumber 19 = .ok (.iload_n 1, 1) := by decide +kernel
theorem dX9_scanNumber_20 : decode cX9_scanNumber 20 = .ok (.baload, 1) := by decide +kernel
theorem dX9_scanNumber_21 : decode cX9_scanNumber 21 = .ok (.bipush 48, 2) := by decide +kernel
theorem dX9_scanNumber_23 : decode cX9_scanNumber 23 = .ok (.if_icmp .lt 40, 3) := by decide +kernel
theorem dX9_scanNumber_26 : decode cX9_scanNumber 26 = .ok (.aload_n 0, 1) := by decide +kernel
theorem dX9_scanNumber_27 : decode cX9_scanNumber 27 = .ok (.getfield 11, 3) := by decide +kernel
theorem dX9_scanNumber_30 : decode cX9_scanNumber 30 = .ok (.iload_n 1, 1) := by decide +kernel
theorem dX9_scanNumber_31 : decode cX9_scanNumber 31 = .ok (.baload, 1) := by decide +kernel
theorem dX9_scanNumber_32 : decode cX9_scanNumber 32 = .ok (.bipush 57, 2) := by decide +kernel
theorem dX9_scanNumber_34 : decode cX9_scanNumber 34 = .ok (.if_icmp .gt 29, 3) := by decide +kernel
theorem dX9_scanNumber_37 : decode cX9_scanNumber 37 = .ok (.ldc 68, 2) := by decide +kernel
theorem dX9_scanNumber_39 : decode cX9_scanNumber 39 = .ok (.iload_n 2, 1) := by decide +kernel
theorem dX9_scanNumber_40 : decode cX9_scanNumber 40 = .ok (.bipush 10, 2) := by decide +kernel
theorem dX9_scanNumber_42 : decode cX9_scanNumber 42 = .ok (.imul, 1) := by decide +kernel
theorem dX9_scanNumber_43 : decode cX9_scanNumber 43 = .ok (.aload_n 0, 1) := by decide +kernel
theorem dX9_scanNumber_44 : decode cX9_scanNumber 44 = .ok (.getfield 11, 3) := by decide +kernel
theorem dX9_scanNumber_47 : decode cX9_scanNumber 47 = .ok (.iload_n 1, 1) := by decide +kernel
theorem dX9_scanNumber_48 : decode cX9_scanNumber 48 = .ok (.baload, 1) := by decide +kernel
theorem dX9_scanNumber_49 : decode cX9_scanNumber 49 = .ok (.iadd, 1) := by decide +kernel
theorem dX9_scanNumber_50 : decode cX9_scanNumber 50 = .ok (.bipush 48, 2) := by decide +kernel
theorem dX9_scanNumber_52 : decode cX9_scanNumber 52 = .ok (.isub, 1) := by decide +kernel
theorem dX9_scanNumber_53 : decode cX9_scanNumber 53 = .ok (.invokestatic 69, 3) := by decide +kernel
theorem dX9_scanNumber_56 : decode cX9_scanNumber 56 = .ok (.istore_n 2, 1) := by decide +kernel
theorem dX9_scanNumber_57 : decode cX9_scanNumber 57 = .ok (.iinc 1 1, 3) := by decide +kernel
theorem dX9_scanNumber_60 : decode cX9_scanNumber 60 = .ok (.goto (-53), 3) := by decide +kernel
theorem dX9_scanNumber_63 : decode cX9_scanNumber 63 = .ok (.iload_n 1, 1) := by decide +kernel
theorem dX9_scanNumber_64 : decode cX9_scanNumber 64 = .ok (.aload_n 0, 1) := by decide +kernel
theorem dX9_scanNumber_65 : decode cX9_scanNumber 65 = .ok (.getfield 15, 3) := by decide +kernel
theorem dX9_scanNumber_68 : decode cX9_scanNumber 68 = .ok (.if_icmp .ge 29, 3) := by decide +kernel
theorem dX9_scanNumber_71 : decode cX9_scanNumber 71 = .ok (.aload_n 0, 1) := by decide +kernel
theorem dX9_scanNumber_72 : decode cX9_scanNumber 72 = .ok (.getfield 11, 3) := by decide +kernel
theorem dX9_scanNumber_75 : decode cX9_scanNumber 75 = .ok (.iload_n 1, 1) := by decide +kernel
theorem dX9_scanNumber_76 : decode cX9_scanNumber 76 = .ok (.baload, 1) := by decide +kernel
theorem dX9_scanNumber_77 : decode cX9_scanNumber 77 = .ok (.bipush 97, 2) := by decide +kernel
theorem dX9_scanNumber_79 : decode cX9_scanNumber 79 = .ok (.if_icmp .lt 18, 3) := by decide +kernel
theorem dX9_scanNumber_82 : decode cX9_scanNumber 82 = .ok (.aload_n 0, 1) := by decide +kernel
theorem dX9_scanNumber_83 : decode cX9_scanNumber 83 = .ok (.getfield 11, 3) := by decide +kernel
theorem dX9_scanNumber_86 : decode cX9_scanNumber 86 = .ok (.iload_n 1, 1) := by decide +kernel
theorem dX9_scanNumber_87 : decode cX9_scanNumber 87 = .ok (.baload, 1) := by decide +kernel
theorem dX9_scanNumber_88 : decode cX9_scanNumber 88 = .ok (.bipush 122, 2) := by decide +kernel
theorem dX9_scanNumber_90 : decode cX9_scanNumber 90 = .ok (.if_icmp .gt 7, 3) := by decide +kernel
theorem dX9_scanNumber_93 : decode cX9_scanNumber 93 = .ok (.iconst 1, 1) := by decide +kernel
theorem dX9_scanNumber_94 : decode cX9_scanNumber 94 = .ok (.goto 4, 3) := by decide +kernel
theorem dX9_scanNumber_97 : decode cX9_scanNumber 97 = .ok (.iconst 0, 1) := by decide +kernel
theorem dX9_scanNumber_98 : decode cX9_scanNumber 98 = .ok (.istore_n 3, 1) := by decide +kernel
theorem dX9_scanNumber_99 : decode cX9_scanNumber 99 = .ok (.aload_n 0, 1) := by decide +kernel
theorem dX9_scanNumber_100 : decode cX9_scanNumber 100 = .ok (.iload_n 2, 1) := by decide +kernel
theorem dX9_scanNumber_101 : decode cX9_scanNumber 101 = .ok (.ldc 75, 2) := by decide +kernel
theorem dX9_scanNumber_103 : decode cX9_scanNumber 103 = .ok (.if_icmp .gt 7, 3) := by decide +kernel
theorem dX9_scanNumber_106 : decode cX9_scanNumber 106 = .ok (.iload_n 3, 1) := by decide +kernel
theorem dX9_scanNumber_107 : decode cX9_scanNumber 107 = .ok (.ifCond .eq 7, 3) := by decide +kernel
theorem dX9_scanNumber_110 : decode cX9_scanNumber 110 = .ok (.iconst 4, 1) := by decide +kernel
theorem dX9_scanNumber_111 : decode cX9_scanNumber 111 = .ok (.goto 4, 3) := by decide +kernel
theorem dX9_scanNumber_114 : decode cX9_scanNumber 114 = .ok (.iconst 2, 1) := by decide +kernel
theorem dX9_scanNumber_115 : decode cX9_scanNumber 115 = .ok (.putfield 37, 3) := by decide +kernel
theorem dX9_scanNumber_118 : decode cX9_scanNumber 118 = .ok (.aload_n 0, 1) := by decide +kernel
theorem dX9_scanNumber_119 : decode cX9_scanNumber 119 = .ok (.iload_n 2, 1) := by decide +kernel
theorem dX9_scanNumber_120 : decode cX9_scanNumber 120 = .ok (.putfield 65, 3) := by decide +kernel
theorem dX9_scanNumber_123 : decode cX9_scanNumber 123 = .ok (.aload_n 0, 1) := by decide +kernel
theorem dX9_scanNumber_124 : decode cX9_scanNumber 124 = .ok (.iload_n 1, 1) := by decide +kernel
theorem dX9_scanNumber_125 : decode cX9_scanNumber 125 = .ok (.putfield 31, 3) := by decide +kernel
theorem dX9_scanNumber_128 : decode cX9_scanNumber 128 = .ok (.return_, 1) := by decide +kernel
theorem dX9_isSign_0 : decode cX9_isSign 0 = .ok (.aload_n 0, 1) := by decide +kernel
theorem dX9_isSign_1 : decode cX9_isSign 1 = .ok (.getfield 37, 3) := by decide +kernel
theorem dX9_isSign_4 : decode cX9_isSign 4 = .ok (.iconst 3, 1) := by decide +kernel
theorem dX9_isSign_5 : decode cX9_isSign 5 = .ok (.if_icmp .ne 15, 3) := by decide +kernel
theorem dX9_isSign_8 : decode cX9_isSign 8 = .ok (.aload_n 0, 1) := by decide +kernel
theorem dX9_isSign_9 : decode cX9_isSign 9 = .ok (.getfield 65, 3) := by decide +kernel
theorem dX9_isSign_12 : decode cX9_isSign 12 = .ok (.iload_n 1, 1) := by decide +kernel
theorem dX9_isSign_13 : decode cX9_isSign 13 = .ok (.if_icmp .ne 7, 3) := by decide +kernel
theorem dX9_isSign_16 : decode cX9_isSign 16 = .ok (.iconst 1, 1) := by decide +kernel
theorem dX9_isSign_17 : decode cX9_isSign 17 = .ok (.goto 4, 3) := by decide +kernel
theorem dX9_isSign_20 : decode cX9_isSign 20 = .ok (.iconst 0, 1) := by decide +kernel
theorem dX9_isSign_21 : decode cX9_isSign 21 = .ok (.ireturn, 1) := by decide +kernel
theorem dX9_takes_0 : decode cX9_takes 0 = .ok (.aload_n 0, 1) := by decide +kernel
theorem dX9_takes_1 : decode cX9_takes 1 = .ok (.iload_n 1, 1) := by decide +kernel
theorem dX9_takes_2 : decode cX9_takes 2 = .ok (.invokevirtual 76, 3) := by decide +kernel
theorem dX9_takes_5 : decode cX9_takes 5 = .ok (.ifCond .ne 5, 3) := by decide +kernel
theorem dX9_takes_8 : decode cX9_takes 8 = .ok (.iconst 0, 1) := by decide +kernel
theorem dX9_takes_9 : decode cX9_takes 9 = .ok (.ireturn, 1) := by decide +kernel
theorem dX9_takes_10 : decode cX9_takes 10 = .ok (.aload_n 0, 1) := by decide +kernel
theorem dX9_takes_11 : decode cX9_takes 11 = .ok (.invokevirtual 34, 3) := by decide +kernel
theorem dX9_takes_14 : decode cX9_takes 14 = .ok (.iconst 1, 1) := by decide +kernel
theorem dX9_takes_15 : decode cX9_takes 15 = .ok (.ireturn, 1) := by decide +kernel
theorem dX9_need_0 : decode cX9_need 0 = .ok (.aload_n 0, 1) := by decide +kernel
theorem dX9_need_1 : decode cX9_need 1 = .ok (.iload_n 1, 1) := by decide +kernel
theorem dX9_need_2 : decode cX9_need 2 = .ok (.invokevirtual 76, 3) := by decide +kernel
theorem dX9_need_5 : decode cX9_need 5 = .ok (.ifCond .eq 10, 3) := by decide +kernel
theorem dX9_need_8 : decode cX9_need 8 = .ok (.aload_n 0, 1) := by decide +kernel
theorem dX9_need_9 : decode cX9_need 9 = .ok (.invokevirtual 34, 3) := by decide +kernel
theorem dX9_need_12 : decode cX9_need 12 = .ok (.goto 12, 3) := by decide +kernel
theorem dX9_need_15 : decode cX9_need 15 = .ok (.aload_n 0, 1) := by decide +kernel
theorem dX9_need_16 : decode cX9_need 16 = .ok (.iconst 1, 1) := by decide +kernel
theorem dX9_need_17 : decode cX9_need 17 = .ok (.aload_n 0, 1) := by decide +kernel
theorem dX9_need_18 : decode cX9_need 18 = .ok (.getfield 40, 3) := by decide +kernel
theorem dX9_need_21 : decode cX9_need 21 = .ok (.invokevirtual 43, 3) := by decide +kernel
theorem dX9_need_24 : decode cX9_need 24 = .ok (.return_, 1) := by decide +kernel
theorem dX9_isWord_0 : decode cX9_isWord 0 = .ok (.aload_n 0, 1) := by decide +kernel
theorem dX9_isWord_1 : decode cX9_isWord 1 = .ok (.getfield 37, 3) := by decide +kernel
theorem dX9_isWord_4 : decode cX9_isWord 4 = .ok (.iconst 1, 1) := by decide +kernel
theorem dX9_isWord_5 : decode cX9_isWord 5 = .ok (.if_icmp .ne 19, 3) := by decide +kernel
theorem dX9_isWord_8 : decode cX9_isWord 8 = .ok (.aload_n 0, 1) := by decide +kernel
theorem dX9_isWord_9 : decode cX9_isWord 9 = .ok (.getfield 31, 3) := by decide +kernel
theorem dX9_isWord_12 : decode cX9_isWord 12 = .ok (.aload_n 0, 1) := by decide +kernel
theorem dX9_isWord_13 : decode cX9_isWord 13 = .ok (.getfield 40, 3) := by decide +kernel
theorem dX9_isWord_16 : decode cX9_isWord 16 = .ok (.isub, 1) := by decide +kernel
theorem dX9_isWord_17 : decode cX9_isWord 17 = .ok (.aload_n 1, 1) := by decide +kernel
theorem dX9_isWord_18 : decode cX9_isWord 18 = .ok (.invokevirtual 80, 3) := by decide +kernel
theorem dX9_isWord_21 : decode cX9_isWord 21 = .ok (.if_icmp .eq 5, 3) := by decide +kernel
theorem dX9_isWord_24 : decode cX9_isWord 24 = .ok (.iconst 0, 1) := by decide +kernel
theorem dX9_isWord_25 : decode cX9_isWord 25 = .ok (.ireturn, 1) := by decide +kernel
theorem dX9_isWord_26 : decode cX9_isWord 26 = .ok (.iconst 0, 1) := by decide +kernel
theorem dX9_isWord_27 : decode cX9_isWord 27 = .ok (.istore_n 2, 1) := by decide +kernel
theorem dX9_isWord_28 : decode cX9_isWord 28 = .ok (.iload_n 2, 1) := by decide +kernel
theorem dX9_isWord_29 : decode cX9_isWord 29 = .ok (.aload_n 1, 1) := by decide +kernel
theorem dX9_isWord_30 : decode cX9_isWord 30 = .ok (.invokevirtual 80, 3) := by decide +kernel
theorem dX9_isWord_33 : decode cX9_isWord 33 = .ok (.if_icmp .ge 43, 3) := by decide +kernel
theorem dX9_isWord_36 : decode cX9_isWord 36 = .ok (.aload_n 0, 1) := by decide +kernel
theorem dX9_isWord_37 : decode cX9_isWord 37 = .ok (.getfield 40, 3) := by decide +kernel
theorem dX9_isWord_40 : decode cX9_isWord 40 = .ok (.iload_n 2, 1) := by decide +kernel
theorem dX9_isWord_41 : decode cX9_isWord 41 = .ok (.iadd, 1) := by decide +kernel
theorem dX9_isWord_42 : decode cX9_isWord 42 = .ok (.aload_n 0, 1) := by decide +kernel
theorem dX9_isWord_43 : decode cX9_isWord 43 = .ok (.getfield 15, 3) := by decide +kernel
theorem dX9_isWord_46 : decode cX9_isWord 46 = .ok (.if_icmp .ge 30, 3) := by decide +kernel
theorem dX9_isWord_49 : decode cX9_isWord 49 = .ok (.aload_n 0, 1) := by decide +kernel
theorem dX9_isWord_50 : decode cX9_isWord 50 = .ok (.getfield 11, 3) := by decide +kernel
theorem dX9_isWord_53 : decode cX9_isWord 53 = .ok (.aload_n 0, 1) := by decide +kernel
theorem dX9_isWord_54 : decode cX9_isWord 54 = .ok (.getfield 40, 3) := by decide +kernel
theorem dX9_isWord_57 : decode cX9_isWord 57 = .ok (.iload_n 2, 1) := by decide +kernel
theorem dX9_isWord_58 : decode cX9_isWord 58 = .ok (.iadd, 1) := by decide +kernel
theorem dX9_isWord_59 : decode cX9_isWord 59 = .ok (.baload, 1) := by decide +kernel
theorem dX9_isWord_60 : decode cX9_isWord 60 = .ok (.aload_n 1, 1) := by decide +kernel
theorem dX9_isWord_61 : decode cX9_isWord 61 = .ok (.iload_n 2, 1) := by decide +kernel
theorem dX9_isWord_62 : decode cX9_isWord 62 = .ok (.invokevirtual 83, 3) := by decide +kernel
theorem dX9_isWord_65 : decode cX9_isWord 65 = .ok (.if_icmp .eq 5, 3) := by decide +kernel
theorem dX9_isWord_68 : decode cX9_isWord 68 = .ok (.iconst 0, 1) := by decide +kernel
theorem dX9_isWord_69 : decode cX9_isWord 69 = .ok (.ireturn, 1) := by decide +kernel
theorem dX9_isWord_70 : decode cX9_isWord 70 = .ok (.iinc 2 1, 3) := by decide +kernel
theorem dX9_isWord_73 : decode cX9_isWord 73 = .ok (.goto (-45), 3) := by decide +kernel
theorem dX9_isWord_76 : decode cX9_isWord 76 = .ok (.iconst 1, 1) := by decide +kernel
theorem dX9_isWord_77 : decode cX9_isWord 77 = .ok (.ireturn, 1) := by decide +kernel
theorem dX9_takesWord_0 : decode cX9_takesWord 0 = .ok (.aload_n 0, 1) := by decide +kernel
theorem dX9_takesWord_1 : decode cX9_takesWord 1 = .ok (.aload_n 1, 1) := by decide +kernel
theorem dX9_takesWord_2 : decode cX9_takesWord 2 = .ok (.invokevirtual 87, 3) := by decide +kernel
theorem dX9_takesWord_5 : decode cX9_takesWord 5 = .ok (.ifCond .ne 5, 3) := by decide +kernel
theorem dX9_takesWord_8 : decode cX9_takesWord 8 = .ok (.iconst 0, 1) := by decide +kernel
theorem dX9_takesWord_9 : decode cX9_takesWord 9 = .ok (.ireturn, 1) := by decide +kernel
theorem dX9_takesWord_10 : decode cX9_takesWord 10 = .ok (.aload_n 0, 1) := by decide +kernel
theorem dX9_takesWord_11 : decode cX9_takesWord 11 = .ok (.invokevirtual 34, 3) := by decide +kernel
theorem dX9_takesWord_14 : decode cX9_takesWord 14 = .ok (.iconst 1, 1) := by decide +kernel
theorem dX9_takesWord_15 : decode cX9_takesWord 15 = .ok (.ireturn, 1) := by decide +kernel
theorem dX9_needWord_0 : decode cX9_needWord 0 = .ok (.aload_n 0, 1) := by decide +kernel
theorem dX9_needWord_1 : decode cX9_needWord 1 = .ok (.aload_n 1, 1) := by decide +kernel
theorem dX9_needWord_2 : decode cX9_needWord 2 = .ok (.invokevirtual 87, 3) := by decide +kernel
theorem dX9_needWord_5 : decode cX9_needWord 5 = .ok (.ifCond .eq 10, 3) := by decide +kernel
theorem dX9_needWord_8 : decode cX9_needWord 8 = .ok (.aload_n 0, 1) := by decide +kernel
theorem dX9_needWord_9 : decode cX9_needWord 9 = .ok (.invokevirtual 34, 3) := by decide +kernel
theorem dX9_needWord_12 : decode cX9_needWord 12 = .ok (.goto 12, 3) := by decide +kernel
theorem dX9_needWord_15 : decode cX9_needWord 15 = .ok (.aload_n 0, 1) := by decide +kernel
theorem dX9_needWord_16 : decode cX9_needWord 16 = .ok (.iconst 1, 1) := by decide +kernel
theorem dX9_needWord_17 : decode cX9_needWord 17 = .ok (.aload_n 0, 1) := by decide +kernel
theorem dX9_needWord_18 : decode cX9_needWord 18 = .ok (.getfield 40, 3) := by decide +kernel
theorem dX9_needWord_21 : decode cX9_needWord 21 = .ok (.invokevirtual 43, 3) := by decide +kernel
theorem dX9_needWord_24 : decode cX9_needWord 24 = .ok (.return_, 1) := by decide +kernel
theorem dX9_number_0 : decode cX9_number 0 = .ok (.aload_n 0, 1) := by decide +kernel
theorem dX9_number_1 : decode cX9_number 1 = .ok (.getfield 37, 3) := by decide +kernel
theorem dX9_number_4 : decode cX9_number 4 = .ok (.iconst 2, 1) := by decide +kernel
theorem dX9_number_5 : decode cX9_number 5 = .ok (.if_icmp .eq 14, 3) := by decide +kernel
theorem dX9_number_8 : decode cX9_number 8 = .ok (.aload_n 0, 1) := by decide +kernel
theorem dX9_number_9 : decode cX9_number 9 = .ok (.iconst 1, 1) := by decide +kernel
theorem dX9_number_10 : decode cX9_number 10 = .ok (.aload_n 0, 1) := by decide +kernel
theorem dX9_number_11 : decode cX9_number 11 = .ok (.getfield 40, 3) := by decide +kernel
theorem dX9_number_14 : decode cX9_number 14 = .ok (.invokevirtual 43, 3) := by decide +kernel
theorem dX9_number_17 : decode cX9_number 17 = .ok (.iload_n 1, 1) := by decide +kernel
theorem dX9_number_18 : decode cX9_number 18 = .ok (.ireturn, 1) := by decide +kernel
theorem dX9_number_19 : decode cX9_number 19 = .ok (.aload_n 0, 1) := by decide +kernel
theorem dX9_number_20 : decode cX9_number 20 = .ok (.getfield 65, 3) := by decide +kernel
theorem dX9_number_23 : decode cX9_number 23 = .ok (.istore_n 3, 1) := by decide +kernel
theorem dX9_number_24 : decode cX9_number 24 = .ok (.iload_n 3, 1) := by decide +kernel
theorem dX9_number_25 : decode cX9_number 25 = .ok (.iload_n 1, 1) := by decide +kernel
theorem dX9_number_26 : decode cX9_number 26 = .ok (.if_icmp .lt 8, 3) := by decide +kernel
theorem dX9_number_29 : decode cX9_number 29 = .ok (.iload_n 3, 1) := by decide +kernel
theorem dX9_number_30 : decode cX9_number 30 = .ok (.iload_n 2, 1) := by decide +kernel
theorem dX9_number_31 : decode cX9_number 31 = .ok (.if_icmp .le 14, 3) := by decide +kernel
theorem dX9_number_34 : decode cX9_number 34 = .ok (.aload_n 0, 1) := by decide +kernel
theorem dX9_number_35 : decode cX9_number 35 = .ok (.iconst 2, 1) := by decide +kernel
theorem dX9_number_36 : decode cX9_number 36 = .ok (.aload_n 0, 1) := by decide +kernel
theorem dX9_number_37 : decode cX9_number 37 = .ok (.getfield 40, 3) := by decide +kernel
theorem dX9_number_40 : decode cX9_number 40 = .ok (.invokevirtual 43, 3) := by decide +kernel
theorem dX9_number_43 : decode cX9_number 43 = .ok (.iload_n 1, 1) := by decide +kernel
theorem dX9_number_44 : decode cX9_number 44 = .ok (.ireturn, 1) := by decide +kernel
theorem dX9_number_45 : decode cX9_number 45 = .ok (.aload_n 0, 1) := by decide +kernel
theorem dX9_number_46 : decode cX9_number 46 = .ok (.invokevirtual 34, 3) := by decide +kernel
theorem dX9_number_49 : decode cX9_number 49 = .ok (.iload_n 3, 1) := by decide +kernel
theorem dX9_number_50 : decode cX9_number 50 = .ok (.ireturn, 1) := by decide +kernel
theorem dX10_init_0 : decode cX10_init 0 = .ok (.aload_n 0, 1) := by decide +kernel
theorem dX10_init_1 : decode cX10_init 1 = .ok (.invokespecial 5, 3) := by decide +kernel
theorem dX10_init_4 : decode cX10_init 4 = .ok (.aload_n 0, 1) := by decide +kernel
theorem dX10_init_5 : decode cX10_init 5 = .ok (.bipush 20, 2) := by decide +kernel
theorem dX10_init_7 : decode cX10_init 7 = .ok (.newarray .int, 2) := by decide +kernel
theorem dX10_init_9 : decode cX10_init 9 = .ok (.putfield 11, 3) := by decide +kernel
theorem dX10_init_12 : decode cX10_init 12 = .ok (.aload_n 0, 1) := by decide +kernel
theorem dX10_init_13 : decode cX10_init 13 = .ok (.bipush 20, 2) := by decide +kernel
theorem dX10_init_15 : decode cX10_init 15 = .ok (.newarray .int, 2) := by decide +kernel
theorem dX10_init_17 : decode cX10_init 17 = .ok (.putfield 15, 3) := by decide +kernel
theorem dX10_init_20 : decode cX10_init 20 = .ok (.aload_n 0, 1) := by decide +kernel
theorem dX10_init_21 : decode cX10_init 21 = .ok (.bipush 20, 2) := by decide +kernel
theorem dX10_init_23 : decode cX10_init 23 = .ok (.newarray .int, 2) := by decide +kernel
theorem dX10_init_25 : decode cX10_init 25 = .ok (.putfield 18, 3) := by decide +kernel
theorem dX10_init_28 : decode cX10_init 28 = .ok (.aload_n 0, 1) := by decide +kernel
theorem dX10_init_29 : decode cX10_init 29 = .ok (.bipush 20, 2) := by decide +kernel
theorem dX10_init_31 : decode cX10_init 31 = .ok (.newarray .int, 2) := by decide +kernel
theorem dX10_init_33 : decode cX10_init 33 = .ok (.putfield 21, 3) := by decide +kernel
theorem dX10_init_36 : decode cX10_init 36 = .ok (.aload_n 0, 1) := by decide +kernel
theorem dX10_init_37 : decode cX10_init 37 = .ok (.bipush 12, 2) := by decide +kernel
theorem dX10_init_39 : decode cX10_init 39 = .ok (.newarray .int, 2) := by decide +kernel
theorem dX10_init_41 : decode cX10_init 41 = .ok (.putfield 24, 3) := by decide +kernel
theorem dX10_init_44 : decode cX10_init 44 = .ok (.aload_n 0, 1) := by decide +kernel
theorem dX10_init_45 : decode cX10_init 45 = .ok (.bipush 12, 2) := by decide +kernel
theorem dX10_init_47 : decode cX10_init 47 = .ok (.newarray .int, 2) := by decide +kernel
theorem dX10_init_49 : decode cX10_init 49 = .ok (.putfield 27, 3) := by decide +kernel
theorem dX10_init_52 : decode cX10_init 52 = .ok (.aload_n 0, 1) := by decide +kernel
theorem dX10_init_53 : decode cX10_init 53 = .ok (.sipush 1020, 3) := by decide +kernel
theorem dX10_init_56 : decode cX10_init 56 = .ok (.newarray .int, 2) := by decide +kernel
theorem dX10_init_58 : decode cX10_init 58 = .ok (.putfield 30, 3) := by decide +kernel
theorem dX10_init_61 : decode cX10_init 61 = .ok (.aload_n 0, 1) := by decide +kernel
theorem dX10_init_62 : decode cX10_init 62 = .ok (.sipush 612, 3) := by decide +kernel
theorem dX10_init_65 : decode cX10_init 65 = .ok (.newarray .int, 2) := by decide +kernel
theorem dX10_init_67 : decode cX10_init 67 = .ok (.putfield 33, 3) := by decide +kernel
theorem dX10_init_70 : decode cX10_init 70 = .ok (.aload_n 0, 1) := by decide +kernel
theorem dX10_init_71 : decode cX10_init 71 = .ok (.sipush 612, 3) := by decide +kernel
theorem dX10_init_74 : decode cX10_init 74 = .ok (.newarray .int, 2) := by decide +kernel
theorem dX10_init_76 : decode cX10_init 76 = .ok (.putfield 36, 3) := by decide +kernel
theorem dX10_init_79 : decode cX10_init 79 = .ok (.aload_n 0, 1) := by decide +kernel
theorem dX10_init_80 : decode cX10_init 80 = .ok (.sipush 612, 3) := by decide +kernel
theorem dX10_init_83 : decode cX10_init 83 = .ok (.newarray .int, 2) := by decide +kernel
theorem dX10_init_85 : decode cX10_init 85 = .ok (.putfield 39, 3) := by decide +kernel
theorem dX10_init_88 : decode cX10_init 88 = .ok (.aload_n 0, 1) := by decide +kernel
theorem dX10_init_89 : decode cX10_init 89 = .ok (.sipush 612, 3) := by decide +kernel
theorem dX10_init_92 : decode cX10_init 92 = .ok (.newarray .int, 2) := by decide +kernel
theorem dX10_init_94 : decode cX10_init 94 = .ok (.putfield 42, 3) := by decide +kernel
theorem dX10_init_97 : decode cX10_init 97 = .ok (.aload_n 0, 1) := by decide +kernel
theorem dX10_init_98 : decode cX10_init 98 = .ok (.bipush 12, 2) := by decide +kernel
theorem dX10_init_100 : decode cX10_init 100 = .ok (.newarray .int, 2) := by decide +kernel
theorem dX10_init_102 : decode cX10_init 102 = .ok (.putfield 45, 3) := by decide +kernel
theorem dX10_init_105 : decode cX10_init 105 = .ok (.aload_n 0, 1) := by decide +kernel
theorem dX10_init_106 : decode cX10_init 106 = .ok (.sipush 480, 3) := by decide +kernel
theorem dX10_init_109 : decode cX10_init 109 = .ok (.newarray .int, 2) := by decide +kernel
theorem dX10_init_111 : decode cX10_init 111 = .ok (.putfield 48, 3) := by decide +kernel
theorem dX10_init_114 : decode cX10_init 114 = .ok (.return_, 1) := by decide +kernel
theorem dX10_add_0 : decode cX10_add 0 = .ok (.aload_n 0, 1) := by decide +kernel
theorem dX10_add_1 : decode cX10_add 1 = .ok (.getfield 11, 3) := by decide +kernel
theorem dX10_add_4 : decode cX10_add 4 = .ok (.aload_n 0, 1) := by decide +kernel
theorem dX10_add_5 : decode cX10_add 5 = .ok (.getfield 51, 3) := by decide +kernel
theorem dX10_add_8 : decode cX10_add 8 = .ok (.iload_n 1, 1) := by decide +kernel
theorem dX10_add_9 : decode cX10_add 9 = .ok (.iastore, 1) := by decide +kernel
theorem dX10_add_10 : decode cX10_add 10 = .ok (.aload_n 0, 1) := by decide +kernel
theorem dX10_add_11 : decode cX10_add 11 = .ok (.getfield 15, 3) := by decide +kernel
theorem dX10_add_14 : decode cX10_add 14 = .ok (.aload_n 0, 1) := by decide +kernel
theorem dX10_add_15 : decode cX10_add 15 = .ok (.getfield 51, 3) := by decide +kernel
theorem dX10_add_18 : decode cX10_add 18 = .ok (.iload_n 2, 1) := by decide +kernel
theorem dX10_add_19 : decode cX10_add 19 = .ok (.iastore, 1) := by decide +kernel
theorem dX10_add_20 : decode cX10_add 20 = .ok (.aload_n 0, 1) := by decide +kernel
theorem dX10_add_21 : decode cX10_add 21 = .ok (.getfield 18, 3) := by decide +kernel
theorem dX10_add_24 : decode cX10_add 24 = .ok (.aload_n 0, 1) := by decide +kernel
theorem dX10_add_25 : decode cX10_add 25 = .ok (.getfield 51, 3) := by decide +kernel
theorem dX10_add_28 : decode cX10_add 28 = .ok (.iload_n 3, 1) := by decide +kernel
theorem dX10_add_29 : decode cX10_add 29 = .ok (.iastore, 1) := by decide +kernel
theorem dX10_add_30 : decode cX10_add 30 = .ok (.aload_n 0, 1) := by decide +kernel
theorem dX10_add_31 : decode cX10_add 31 = .ok (.getfield 21, 3) := by decide +kernel
theorem dX10_add_34 : decode cX10_add 34 = .ok (.aload_n 0, 1) := by decide +kernel
theorem dX10_add_35 : decode cX10_add 35 = .ok (.getfield 51, 3) := by decide +kernel
theorem dX10_add_38 : decode cX10_add 38 = .ok (.iload 4, 2) := by decide +kernel
theorem dX10_add_40 : decode cX10_add 40 = .ok (.iastore, 1) := by decide +kernel
theorem dX10_add_41 : decode cX10_add 41 = .ok (.aload_n 0, 1) := by decide +kernel
theorem dX10_add_42 : decode cX10_add 42 = .ok (.iload_n 1, 1) := by decide +kernel
theorem dX10_add_43 : decode cX10_add 43 = .ok (.aload_n 0, 1) := by decide +kernel
theorem dX10_add_44 : decode cX10_add 44 = .ok (.getfield 51, 3) := by decide +kernel
theorem dX10_add_47 : decode cX10_add 47 = .ok (.invokevirtual 55, 3) := by decide +kernel
theorem dX10_add_50 : decode cX10_add 50 = .ok (.aload_n 0, 1) := by decide +kernel
theorem dX10_add_51 : decode cX10_add 51 = .ok (.iload_n 2, 1) := by decide +kernel
theorem dX10_add_52 : decode cX10_add 52 = .ok (.aload_n 0, 1) := by decide +kernel
theorem dX10_add_53 : decode cX10_add 53 = .ok (.getfield 51, 3) := by decide +kernel
theorem dX10_add_56 : decode cX10_add 56 = .ok (.bipush 20, 2) := by decide +kernel
theorem dX10_add_58 : decode cX10_add 58 = .ok (.iadd, 1) := by decide +kernel
theorem dX10_add_59 : decode cX10_add 59 = .ok (.invokevirtual 55, 3) := by decide +kernel
theorem dX10_add_62 : decode cX10_add 62 = .ok (.aload_n 0, 1) := by decide +kernel
theorem dX10_add_63 : decode cX10_add 63 = .ok (.dup, 1) := by decide +kernel
theorem dX10_add_64 : decode cX10_add 64 = .ok (.getfield 51, 3) := by decide +kernel
theorem dX10_add_67 : decode cX10_add 67 = .ok (.iconst 1, 1) := by decide +kernel
theorem dX10_add_68 : decode cX10_add 68 = .ok (.iadd, 1) := by decide +kernel
theorem dX10_add_69 : decode cX10_add 69 = .ok (.putfield 51, 3) := by decide +kernel
theorem dX10_add_72 : decode cX10_add 72 = .ok (.aload_n 0, 1) := by decide +kernel
theorem dX10_add_73 : decode cX10_add 73 = .ok (.getfield 51, 3) := by decide +kernel
theorem dX10_add_76 : decode cX10_add 76 = .ok (.iconst 1, 1) := by decide +kernel
theorem dX10_add_77 : decode cX10_add 77 = .ok (.isub, 1) := by decide +kernel
theorem dX10_add_78 : decode cX10_add 78 = .ok (.ireturn, 1) := by decide +kernel
theorem dX10_note_0 : decode cX10_note 0 = .ok (.aload_n 0, 1) := by decide +kernel
theorem dX10_note_1 : decode cX10_note 1 = .ok (.getfield 45, 3) := by decide +kernel
theorem dX10_note_4 : decode cX10_note 4 = .ok (.iload_n 1, 1) := by decide +kernel
theorem dX10_note_5 : decode cX10_note 5 = .ok (.iaload, 1) := by decide +kernel
theorem dX10_note_6 : decode cX10_note 6 = .ok (.bipush 40, 2) := by decide +kernel
theorem dX10_note_8 : decode cX10_note 8 = .ok (.if_icmp .ge 32, 3) := by decide +kernel
theorem dX10_note_11 : decode cX10_note 11 = .ok (.aload_n 0, 1) := by decide +kernel
theorem dX10_note_12 : decode cX10_note 12 = .ok (.getfield 48, 3) := by decide +kernel
theorem dX10_note_15 : decode cX10_note 15 = .ok (.iload_n 1, 1) := by decide +kernel
theorem dX10_note_16 : decode cX10_note 16 = .ok (.iconst 2, 1) := by decide +kernel
theorem dX10_note_17 : decode cX10_note 17 = .ok (.imul, 1) := by decide +kernel
theorem dX10_note_18 : decode cX10_note 18 = .ok (.bipush 20, 2) := by decide +kernel
theorem dX10_note_20 : decode cX10_note 20 = .ok (.imul, 1) := by decide +kernel
theorem dX10_note_21 : decode cX10_note 21 = .ok (.aload_n 0, 1) := by decide +kernel
theorem dX10_note_22 : decode cX10_note 22 = .ok (.getfield 45, 3) := by decide +kernel
theorem dX10_note_25 : decode cX10_note 25 = .ok (.iload_n 1, 1) := by decide +kernel
theorem dX10_note_26 : decode cX10_note 26 = .ok (.iaload, 1) := by decide +kernel
theorem dX10_note_27 : decode cX10_note 27 = .ok (.iadd, 1) := by decide +kernel
theorem dX10_note_28 : decode cX10_note 28 = .ok (.iload_n 2, 1) := by decide +kernel
theorem dX10_note_29 : decode cX10_note 29 = .ok (.iastore, 1) := by decide +kernel
theorem dX10_note_30 : decode cX10_note 30 = .ok (.aload_n 0, 1) := by decide +kernel
theorem dX10_note_31 : decode cX10_note 31 = .ok (.getfield 45, 3) := by decide +kernel
theorem dX10_note_34 : decode cX10_note 34 = .ok (.iload_n 1, 1) := by decide +kernel
theorem dX10_note_35 : decode cX10_note 35 = .ok (.dup2, 1) := by decide +kernel
theorem dX10_note_36 : decode cX10_note 36 = .ok (.iaload, 1) := by decide +kernel
theorem dX10_note_37 : decode cX10_note 37 = .ok (.iconst 1, 1) := by decide +kernel
theorem dX10_note_38 : decode cX10_note 38 = .ok (.iadd, 1) := by decide +kernel
theorem dX10_note_39 : decode cX10_note 39 = .ok (.iastore, 1) := by decide +kernel
theorem dX10_note_40 : decode cX10_note 40 = .ok (.return_, 1) := by decide +kernel
theorem dX10_clear_0 : decode cX10_clear 0 = .ok (.aload_n 0, 1) := by decide +kernel
theorem dX10_clear_1 : decode cX10_clear 1 = .ok (.iconst 0, 1) := by decide +kernel
theorem dX10_clear_2 : decode cX10_clear 2 = .ok (.putfield 51, 3) := by decide +kernel
theorem dX10_clear_5 : decode cX10_clear 5 = .ok (.aload_n 0, 1) := by decide +kernel
theorem dX10_clear_6 : decode cX10_clear 6 = .ok (.getfield 24, 3) := by decide +kernel
theorem dX10_clear_9 : decode cX10_clear 9 = .ok (.iconst 0, 1) := by decide +kernel
theorem dX10_clear_10 : decode cX10_clear 10 = .ok (.invokestatic 59, 3) := by decide +kernel
theorem dX10_clear_13 : decode cX10_clear 13 = .ok (.aload_n 0, 1) := by decide +kernel
theorem dX10_clear_14 : decode cX10_clear 14 = .ok (.getfield 45, 3) := by decide +kernel
theorem dX10_clear_17 : decode cX10_clear 17 = .ok (.iconst 0, 1) := by decide +kernel
theorem dX10_clear_18 : decode cX10_clear 18 = .ok (.invokestatic 59, 3) := by decide +kernel
theorem dX10_clear_21 : decode cX10_clear 21 = .ok (.return_, 1) := by decide +kernel
theorem dX10_leastTime_0 : decode cX10_leastTime 0 = .ok (.iconst 0, 1) := by decide +kernel
theorem dX10_leastTime_1 : decode cX10_leastTime 1 = .ok (.istore_n 1, 1) := by decide +kernel
theorem dX10_leastTime_2 : decode cX10_leastTime 2 = .ok (.iconst 0, 1) := by decide +kernel
theorem dX10_leastTime_3 : decode cX10_leastTime 3 = .ok (.istore_n 2, 1) := by decide +kernel
theorem dX10_leastTime_4 : decode cX10_leastTime 4 = .ok (.iload_n 2, 1) := by decide +kernel
theorem dX10_leastTime_5 : decode cX10_leastTime 5 = .ok (.bipush 11, 2) := by decide +kernel
theorem dX10_leastTime_7 : decode cX10_leastTime 7 = .ok (.if_icmp .ge 30, 3) := by decide +kernel
theorem dX10_leastTime_10 : decode cX10_leastTime 10 = .ok (.aload_n 0, 1) := by decide +kernel
theorem dX10_leastTime_11 : decode cX10_leastTime 11 = .ok (.getfield 27, 3) := by decide +kernel
theorem dX10_leastTime_14 : decode cX10_leastTime 14 = .ok (.iload_n 2, 1) := by decide +kernel
theorem dX10_leastTime_15 : decode cX10_leastTime 15 = .ok (.aload_n 0, 1) := by decide +kernel
theorem dX10_leastTime_16 : decode cX10_leastTime 16 = .ok (.getfield 24, 3) := by decide +kernel
theorem dX10_leastTime_19 : decode cX10_leastTime 19 = .ok (.iload_n 2, 1) := by decide +kernel
theorem dX10_leastTime_20 : decode cX10_leastTime 20 = .ok (.iaload, 1) := by decide +kernel
theorem dX10_leastTime_21 : decode cX10_leastTime 21 = .ok (.iastore, 1) := by decide +kernel
theorem dX10_leastTime_22 : decode cX10_leastTime 22 = .ok (.iload_n 1, 1) := by decide +kernel
theorem dX10_leastTime_23 : decode cX10_leastTime 23 = .ok (.aload_n 0, 1) := by decide +kernel
theorem dX10_leastTime_24 : decode cX10_leastTime 24 = .ok (.getfield 24, 3) := by decide +kernel
theorem dX10_leastTime_27 : decode cX10_leastTime 27 = .ok (.iload_n 2, 1) := by decide +kernel
theorem dX10_leastTime_28 : decode cX10_leastTime 28 = .ok (.iaload, 1) := by decide +kernel
theorem dX10_leastTime_29 : decode cX10_leastTime 29 = .ok (.iadd, 1) := by decide +kernel
theorem dX10_leastTime_30 : decode cX10_leastTime 30 = .ok (.istore_n 1, 1) := by decide +kernel
theorem dX10_leastTime_31 : decode cX10_leastTime 31 = .ok (.iinc 2 1, 3) := by decide +kernel
theorem dX10_leastTime_34 : decode cX10_leastTime 34 = .ok (.goto (-30), 3) := by decide +kernel
theorem dX10_leastTime_37 : decode cX10_leastTime 37 = .ok (.aload_n 0, 1) := by decide +kernel
theorem dX10_leastTime_38 : decode cX10_leastTime 38 = .ok (.getfield 30, 3) := by decide +kernel
theorem dX10_leastTime_41 : decode cX10_leastTime 41 = .ok (.iconst 0, 1) := by decide +kernel
theorem dX10_leastTime_42 : decode cX10_leastTime 42 = .ok (.invokestatic 59, 3) := by decide +kernel
theorem dX10_leastTime_45 : decode cX10_leastTime 45 = .ok (.aload_n 0, 1) := by decide +kernel
theorem dX10_leastTime_46 : decode cX10_leastTime 46 = .ok (.getfield 33, 3) := by decide +kernel
theorem dX10_leastTime_49 : decode cX10_leastTime 49 = .ok (.iconst 0, 1) := by decide +kernel
theorem dX10_leastTime_50 : decode cX10_leastTime 50 = .ok (.invokestatic 59, 3) := by decide +kernel
theorem dX10_leastTime_53 : decode cX10_leastTime 53 = .ok (.aload_n 0, 1) := by decide +kernel
theorem dX10_leastTime_54 : decode cX10_leastTime 54 = .ok (.invokevirtual 65, 3) := by decide +kernel
theorem dX10_leastTime_57 : decode cX10_leastTime 57 = .ok (.istore_n 2, 1) := by decide +kernel
theorem dX10_leastTime_58 : decode cX10_leastTime 58 = .ok (.iload_n 2, 1) := by decide +kernel
theorem dX10_leastTime_59 : decode cX10_leastTime 59 = .ok (.bipush 50, 2) := by decide +kernel
theorem dX10_leastTime_61 : decode cX10_leastTime 61 = .ok (.if_icmp .gt 23, 3) := by decide +kernel
theorem dX10_leastTime_64 : decode cX10_leastTime 64 = .ok (.iload_n 1, 1) := by decide +kernel
theorem dX10_leastTime_65 : decode cX10_leastTime 65 = .ok (.aload_n 0, 1) := by decide +kernel
theorem dX10_leastTime_66 : decode cX10_leastTime 66 = .ok (.iload_n 2, 1) := by decide +kernel
theorem dX10_leastTime_67 : decode cX10_leastTime 67 = .ok (.invokevirtual 69, 3) := by decide +kernel
theorem dX10_leastTime_70 : decode cX10_leastTime 70 = .ok (.isub, 1) := by decide +kernel
theorem dX10_leastTime_71 : decode cX10_leastTime 71 = .ok (.istore_n 1, 1) := by decide +kernel
theorem dX10_leastTime_72 : decode cX10_leastTime 72 = .ok (.iload_n 1, 1) := by decide +kernel
theorem dX10_leastTime_73 : decode cX10_leastTime 73 = .ok (.ifCond .ne 5, 3) := by decide +kernel
theorem dX10_leastTime_76 : decode cX10_leastTime 76 = .ok (.iload_n 2, 1) := by decide +kernel
theorem dX10_leastTime_77 : decode cX10_leastTime 77 = .ok (.ireturn, 1) := by decide +kernel
theorem dX10_leastTime_78 : decode cX10_leastTime 78 = .ok (.iinc 2 1, 3) := by decide +kernel
theorem dX10_leastTime_81 : decode cX10_leastTime 81 = .ok (.goto (-23), 3) := by decide +kernel
theorem dX10_leastTime_84 : decode cX10_leastTime 84 = .ok (.iconst (-1), 1) := by decide +kernel
theorem dX10_leastTime_85 : decode cX10_leastTime 85 = .ok (.ireturn, 1) := by decide +kernel
theorem dX10_slowest_0 : decode cX10_slowest 0 = .ok (.iconst 0, 1) := by decide +kernel
theorem dX10_slowest_1 : decode cX10_slowest 1 = .ok (.istore_n 1, 1) := by decide +kernel
theorem dX10_slowest_2 : decode cX10_slowest 2 = .ok (.iload_n 1, 1) := by decide +kernel
theorem dX10_slowest_3 : decode cX10_slowest 3 = .ok (.bipush 11, 2) := by decide +kernel
theorem dX10_slowest_5 : decode cX10_slowest 5 = .ok (.if_icmp .ge 17, 3) := by decide +kernel
theorem dX10_slowest_8 : decode cX10_slowest 8 = .ok (.aload_n 0, 1) := by decide +kernel
theorem dX10_slowest_9 : decode cX10_slowest 9 = .ok (.getfield 39, 3) := by decide +kernel
theorem dX10_slowest_12 : decode cX10_slowest 12 = .ok (.iload_n 1, 1) := by decide +kernel
theorem dX10_slowest_13 : decode cX10_slowest 13 = .ok (.ldc 73, 2) := by decide +kernel
theorem dX10_slowest_15 : decode cX10_slowest 15 = .ok (.iastore, 1) := by decide +kernel
theorem dX10_slowest_16 : decode cX10_slowest 16 = .ok (.iinc 1 1, 3) := by decide +kernel
theorem dX10_slowest_19 : decode cX10_slowest 19 = .ok (.goto (-17), 3) := by decide +kernel
theorem dX10_slowest_22 : decode cX10_slowest 22 = .ok (.aload_n 0, 1) := by decide +kernel
theorem dX10_slowest_23 : decode cX10_slowest 23 = .ok (.getfield 39, 3) := by decide +kernel
theorem dX10_slowest_26 : decode cX10_slowest 26 = .ok (.bipush 11, 2) := by decide +kernel
theorem dX10_slowest_28 : decode cX10_slowest 28 = .ok (.iconst 0, 1) := by decide +kernel
theorem dX10_slowest_29 : decode cX10_slowest 29 = .ok (.iastore, 1) := by decide +kernel
theorem dX10_slowest_30 : decode cX10_slowest 30 = .ok (.iconst 1, 1) := by decide +kernel
theorem dX10_slowest_31 : decode cX10_slowest 31 = .ok (.istore_n 1, 1) := by decide +kernel
theorem dX10_slowest_32 : decode cX10_slowest 32 = .ok (.iconst 0, 1) := by decide +kernel
theorem dX10_slowest_33 : decode cX10_slowest 33 = .ok (.istore_n 2, 1) := by decide +kernel
theorem dX10_slowest_34 : decode cX10_slowest 34 = .ok (.iload_n 2, 1) := by decide +kernel
theorem dX10_slowest_35 : decode cX10_slowest 35 = .ok (.bipush 12, 2) := by decide +kernel
theorem dX10_slowest_37 : decode cX10_slowest 37 = .ok (.if_icmp .ge 82, 3) := by decide +kernel
theorem dX10_slowest_40 : decode cX10_slowest 40 = .ok (.iload_n 1, 1) := by decide +kernel
theorem dX10_slowest_41 : decode cX10_slowest 41 = .ok (.ifCond .eq 78, 3) := by decide +kernel
theorem dX10_slowest_44 : decode cX10_slowest 44 = .ok (.iconst 0, 1) := by decide +kernel
theorem dX10_slowest_45 : decode cX10_slowest 45 = .ok (.istore_n 1, 1) := by decide +kernel
theorem dX10_slowest_46 : decode cX10_slowest 46 = .ok (.iconst 0, 1) := by decide +kernel
theorem dX10_slowest_47 : decode cX10_slowest 47 = .ok (.istore_n 3, 1) := by decide +kernel
theorem dX10_slowest_48 : decode cX10_slowest 48 = .ok (.iload_n 3, 1) := by decide +kernel
theorem dX10_slowest_49 : decode cX10_slowest 49 = .ok (.aload_n 0, 1) := by decide +kernel
theorem dX10_slowest_50 : decode cX10_slowest 50 = .ok (.getfield 51, 3) := by decide +kernel
theorem dX10_slowest_53 : decode cX10_slowest 53 = .ok (.if_icmp .ge 60, 3) := by decide +kernel
theorem dX10_slowest_56 : decode cX10_slowest 56 = .ok (.aload_n 0, 1) := by decide +kernel
theorem dX10_slowest_57 : decode cX10_slowest 57 = .ok (.getfield 39, 3) := by decide +kernel
theorem dX10_slowest_60 : decode cX10_slowest 60 = .ok (.aload_n 0, 1) := by decide +kernel
theorem dX10_slowest_61 : decode cX10_slowest 61 = .ok (.getfield 15, 3) := by decide +kernel
theorem dX10_slowest_64 : decode cX10_slowest 64 = .ok (.iload_n 3, 1) := by decide +kernel
theorem dX10_slowest_65 : decode cX10_slowest 65 = .ok (.iaload, 1) := by decide +kernel
theorem dX10_slowest_66 : decode cX10_slowest 66 = .ok (.iaload, 1) := by decide +kernel
theorem dX10_slowest_67 : decode cX10_slowest 67 = .ok (.aload_n 0, 1) := by decide +kernel
theorem dX10_slowest_68 : decode cX10_slowest 68 = .ok (.getfield 21, 3) := by decide +kernel
theorem dX10_slowest_71 : decode cX10_slowest 71 = .ok (.iload_n 3, 1) := by decide +kernel
theorem dX10_slowest_72 : decode cX10_slowest 72 = .ok (.iaload, 1) := by decide +kernel
theorem dX10_slowest_73 : decode cX10_slowest 73 = .ok (.iadd, 1) := by decide +kernel
theorem dX10_slowest_74 : decode cX10_slowest 74 = .ok (.istore 4, 2) := by decide +kernel
theorem dX10_slowest_76 : decode cX10_slowest 76 = .ok (.iload 4, 2) := by decide +kernel
theorem dX10_slowest_78 : decode cX10_slowest 78 = .ok (.aload_n 0, 1) := by decide +kernel
theorem dX10_slowest_79 : decode cX10_slowest 79 = .ok (.getfield 39, 3) := by decide +kernel
theorem dX10_slowest_82 : decode cX10_slowest 82 = .ok (.aload_n 0, 1) := by decide +kernel
theorem dX10_slowest_83 : decode cX10_slowest 83 = .ok (.getfield 11, 3) := by decide +kernel
theorem dX10_slowest_86 : decode cX10_slowest 86 = .ok (.iload_n 3, 1) := by decide +kernel
theorem dX10_slowest_87 : decode cX10_slowest 87 = .ok (.iaload, 1) := by decide +kernel
theorem dX10_slowest_88 : decode cX10_slowest 88 = .ok (.iaload, 1) := by decide +kernel
theorem dX10_slowest_89 : decode cX10_slowest 89 = .ok (.if_icmp .ge 18, 3) := by decide +kernel
theorem dX10_slowest_92 : decode cX10_slowest 92 = .ok (.aload_n 0, 1) := by decide +kernel
theorem dX10_slowest_93 : decode cX10_slowest 93 = .ok (.getfield 39, 3) := by decide +kernel
theorem dX10_slowest_96 : decode cX10_slowest 96 = .ok (.aload_n 0, 1) := by decide +kernel
theorem dX10_slowest_97 : decode cX10_slowest 97 = .ok (.getfield 11, 3) := by decide +kernel
theorem dX10_slowest_100 : decode cX10_slowest 100 = .ok (.iload_n 3, 1) := by decide +kernel
theorem dX10_slowest_101 : decode cX10_slowest 101 = .ok (.iaload, 1) := by decide +kernel
theorem dX10_slowest_102 : decode cX10_slowest 102 = .ok (.iload 4, 2) := by decide +kernel
theorem dX10_slowest_104 : decode cX10_slowest 104 = .ok (.iastore, 1) := by decide +kernel
theorem dX10_slowest_105 : decode cX10_slowest 105 = .ok (.iconst 1, 1) := by decide +kernel
theorem dX10_slowest_106 : decode cX10_slowest 106 = .ok (.istore_n 1, 1) := by decide +kernel
theorem dX10_slowest_107 : decode cX10_slowest 107 = .ok (.iinc 3 1, 3) := by decide +kernel
theorem dX10_slowest_110 : decode cX10_slowest 110 = .ok (.goto (-62), 3) := by decide +kernel
theorem dX10_slowest_113 : decode cX10_slowest 113 = .ok (.iinc 2 1, 3) := by decide +kernel
theorem dX10_slowest_116 : decode cX10_slowest 116 = .ok (.goto (-82), 3) := by decide +kernel
theorem dX10_slowest_119 : decode cX10_slowest 119 = .ok (.iconst 0, 1) := by decide +kernel
theorem dX10_slowest_120 : decode cX10_slowest 120 = .ok (.istore_n 2, 1) := by decide +kernel
theorem dX10_slowest_121 : decode cX10_slowest 121 = .ok (.iconst 0, 1) := by decide +kernel
theorem dX10_slowest_122 : decode cX10_slowest 122 = .ok (.istore_n 3, 1) := by decide +kernel
theorem dX10_slowest_123 : decode cX10_slowest 123 = .ok (.iload_n 3, 1) := by decide +kernel
theorem dX10_slowest_124 : decode cX10_slowest 124 = .ok (.bipush 11, 2) := by decide +kernel
theorem dX10_slowest_126 : decode cX10_slowest 126 = .ok (.if_icmp .ge 29, 3) := by decide +kernel
theorem dX10_slowest_129 : decode cX10_slowest 129 = .ok (.aload_n 0, 1) := by decide +kernel
theorem dX10_slowest_130 : decode cX10_slowest 130 = .ok (.getfield 24, 3) := by decide +kernel
theorem dX10_slowest_133 : decode cX10_slowest 133 = .ok (.iload_n 3, 1) := by decide +kernel
theorem dX10_slowest_134 : decode cX10_slowest 134 = .ok (.iaload, 1) := by decide +kernel
theorem dX10_slowest_135 : decode cX10_slowest 135 = .ok (.ifCond .le 14, 3) := by decide +kernel
theorem dX10_slowest_138 : decode cX10_slowest 138 = .ok (.iload_n 2, 1) := by decide +kernel
theorem dX10_slowest_139 : decode cX10_slowest 139 = .ok (.aload_n 0, 1) := by decide +kernel
theorem dX10_slowest_140 : decode cX10_slowest 140 = .ok (.getfield 39, 3) := by decide +kernel
theorem dX10_slowest_143 : decode cX10_slowest 143 = .ok (.iload_n 3, 1) := by decide +kernel
theorem dX10_slowest_144 : decode cX10_slowest 144 = .ok (.iaload, 1) := by decide +kernel
theorem dX10_slowest_145 : decode cX10_slowest 145 = .ok (.invokestatic 74, 3) := by decide +kernel
theorem dX10_slowest_148 : decode cX10_slowest 148 = .ok (.istore_n 2, 1) := by decide +kernel
theorem dX10_slowest_149 : decode cX10_slowest 149 = .ok (.iinc 3 1, 3) := by decide +kernel
theorem dX10_slowest_152 : decode cX10_slowest 152 = .ok (.goto (-29), 3) := by decide +kernel
theorem dX10_slowest_155 : decode cX10_slowest 155 = .ok (.iload_n 2, 1) := by decide +kernel
theorem dX10_slowest_156 : decode cX10_slowest 156 = .ok (.ireturn, 1) := by decide +kernel
