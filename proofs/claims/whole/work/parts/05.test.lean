theorem f_X12_9 : FLd RX12 9 12 0 true := FLd.of cls12 1372 (by decide +kernel) (by decide +kernel)
theorem f_X12_345 : FLd RX12 345 12 1 false := FLd.of cls12 1373 (by decide +kernel) (by decide +kernel)
theorem g_X12_348 : CVt RX12 348 yX12_lay cX12_lay 3 none 1 12 := CVt.ofp (T := TX12) (N := 127) 1759 41 (by decide +kernel) (by decide +kernel) (by decide) rfl (CB.of 1757 14 1760 (by decide +kernel) (by decide +kernel) (by decide +kernel) (by decide +kernel))
theorem f_X0_21 : FLd RX0 21 0 0 false := FLd.of cls0 98 (by decide +kernel) (by decide +kernel)
theorem f_X0_25 : FLd RX0 25 0 1 false := FLd.of cls0 101 (by decide +kernel) (by decide +kernel)
theorem f_X0_28 : FLd RX0 28 0 2 false := FLd.of cls0 103 (by decide +kernel) (by decide +kernel)
theorem f_X0_31 : FLd RX0 31 0 3 false := FLd.of cls0 105 (by decide +kernel) (by decide +kernel)
theorem f_X0_34 : FLd RX0 34 0 4 false := FLd.of cls0 106 (by decide +kernel) (by decide +kernel)
theorem f_X0_37 : FLd RX0 37 0 5 false := FLd.of cls0 107 (by decide +kernel) (by decide +kernel)
theorem f_X0_40 : FLd RX0 40 0 6 false := FLd.of cls0 108 (by decide +kernel) (by decide +kernel)
theorem f_X0_9 : FLd RX0 9 0 7 false := FLd.of cls0 109 (by decide +kernel) (by decide +kernel)
theorem f_X0_43 : FLd RX0 43 0 8 false := FLd.of cls0 112 (by decide +kernel) (by decide +kernel)
theorem f_X0_46 : FLd RX0 46 0 9 false := FLd.of cls0 114 (by decide +kernel) (by decide +kernel)
theorem f_X0_49 : FLd RX0 49 0 10 false := FLd.of cls0 116 (by decide +kernel) (by decide +kernel)
theorem f_X0_52 : FLd RX0 52 0 11 false := FLd.of cls0 119 (by decide +kernel) (by decide +kernel)
theorem f_X9_15 : FLd RX9 15 9 1 false := FLd.of cls9 38 (by decide +kernel) (by decide +kernel)
theorem f_X9_11 : FLd RX9 11 9 0 true := FLd.of cls9 37 (by decide +kernel) (by decide +kernel)
theorem k_X12_351 : Cond.constantLong RX12 351 (2) ∈ tb := tb_t (List.mem_of_getElem? (i := 1959) (by decide +kernel)) rfl
theorem dX12_lay_0 : decode cX12_lay 0 = .ok (.bipush 24, 2) := by decide +kernel
theorem dX12_lay_2 : decode cX12_lay 2 = .ok (.istore_n 2, 1) := by decide +kernel
theorem dX12_lay_3 : decode cX12_lay 3 = .ok (.iload_n 2, 1) := by decide +kernel
theorem dX12_lay_4 : decode cX12_lay 4 = .ok (.ifCond .lt 32, 3) := by decide +kernel
theorem dX12_lay_7 : decode cX12_lay 7 = .ok (.aload_n 0, 1) := by decide +kernel
theorem dX12_lay_8 : decode cX12_lay 8 = .ok (.getfield 9, 3) := by decide +kernel
theorem dX12_lay_11 : decode cX12_lay 11 = .ok (.aload_n 0, 1) := by decide +kernel
theorem dX12_lay_12 : decode cX12_lay 12 = .ok (.getfield 345, 3) := by decide +kernel
theorem dX12_lay_15 : decode cX12_lay 15 = .ok (.iload_n 1, 1) := by decide +kernel
theorem dX12_lay_16 : decode cX12_lay 16 = .ok (.iload_n 2, 1) := by decide +kernel
theorem dX12_lay_17 : decode cX12_lay 17 = .ok (.ishr, 1) := by decide +kernel
theorem dX12_lay_18 : decode cX12_lay 18 = .ok (.i2b, 1) := by decide +kernel
theorem dX12_lay_19 : decode cX12_lay 19 = .ok (.bastore, 1) := by decide +kernel
theorem dX12_lay_20 : decode cX12_lay 20 = .ok (.aload_n 0, 1) := by decide +kernel
theorem dX12_lay_21 : decode cX12_lay 21 = .ok (.dup, 1) := by decide +kernel
theorem dX12_lay_22 : decode cX12_lay 22 = .ok (.getfield 345, 3) := by decide +kernel
theorem dX12_lay_25 : decode cX12_lay 25 = .ok (.iconst 1, 1) := by decide +kernel
theorem dX12_lay_26 : decode cX12_lay 26 = .ok (.iadd, 1) := by decide +kernel
theorem dX12_lay_27 : decode cX12_lay 27 = .ok (.putfield 345, 3) := by decide +kernel
theorem dX12_lay_30 : decode cX12_lay 30 = .ok (.iinc 2 (-8), 3) := by decide +kernel
theorem dX12_lay_33 : decode cX12_lay 33 = .ok (.goto (-30), 3) := by decide +kernel
theorem dX12_lay_36 : decode cX12_lay 36 = .ok (.return_, 1) := by decide +kernel
theorem dX12_feed_0 : decode cX12_feed 0 = .ok (.aload_n 0, 1) := by decide +kernel
theorem dX12_feed_1 : decode cX12_feed 1 = .ok (.getfield 345, 3) := by decide +kernel
theorem dX12_feed_4 : decode cX12_feed 4 = .ok (.bipush 20, 2) := by decide +kernel
theorem dX12_feed_6 : decode cX12_feed 6 = .ok (.iadd, 1) := by decide +kernel
theorem dX12_feed_7 : decode cX12_feed 7 = .ok (.sipush 4000, 3) := by decide +kernel
theorem dX12_feed_10 : decode cX12_feed 10 = .ok (.if_icmp .le 5, 3) := by decide +kernel
theorem dX12_feed_13 : decode cX12_feed 13 = .ok (.iconst (-1), 1) := by decide +kernel
theorem dX12_feed_14 : decode cX12_feed 14 = .ok (.ireturn, 1) := by decide +kernel
theorem dX12_feed_15 : decode cX12_feed 15 = .ok (.aload_n 0, 1) := by decide +kernel
theorem dX12_feed_16 : decode cX12_feed 16 = .ok (.iload_n 1, 1) := by decide +kernel
theorem dX12_feed_17 : decode cX12_feed 17 = .ok (.invokevirtual 348, 3) := by decide +kernel
theorem dX12_feed_20 : decode cX12_feed 20 = .ok (.aload_n 0, 1) := by decide +kernel
theorem dX12_feed_21 : decode cX12_feed 21 = .ok (.iload_n 2, 1) := by decide +kernel
theorem dX12_feed_22 : decode cX12_feed 22 = .ok (.invokevirtual 348, 3) := by decide +kernel
theorem dX12_feed_25 : decode cX12_feed 25 = .ok (.aload_n 0, 1) := by decide +kernel
theorem dX12_feed_26 : decode cX12_feed 26 = .ok (.iload_n 3, 1) := by decide +kernel
theorem dX12_feed_27 : decode cX12_feed 27 = .ok (.invokevirtual 348, 3) := by decide +kernel
theorem dX12_feed_30 : decode cX12_feed 30 = .ok (.aload_n 0, 1) := by decide +kernel
theorem dX12_feed_31 : decode cX12_feed 31 = .ok (.iload 4, 2) := by decide +kernel
theorem dX12_feed_33 : decode cX12_feed 33 = .ok (.invokevirtual 348, 3) := by decide +kernel
theorem dX12_feed_36 : decode cX12_feed 36 = .ok (.aload_n 0, 1) := by decide +kernel
theorem dX12_feed_37 : decode cX12_feed 37 = .ok (.iload 5, 2) := by decide +kernel
theorem dX12_feed_39 : decode cX12_feed 39 = .ok (.invokevirtual 348, 3) := by decide +kernel
theorem dX12_feed_42 : decode cX12_feed 42 = .ok (.aload_n 0, 1) := by decide +kernel
theorem dX12_feed_43 : decode cX12_feed 43 = .ok (.getfield 345, 3) := by decide +kernel
theorem dX12_feed_46 : decode cX12_feed 46 = .ok (.ireturn, 1) := by decide +kernel
theorem dX12_cut_0 : decode cX12_cut 0 = .ok (.iload_n 1, 1) := by decide +kernel
theorem dX12_cut_1 : decode cX12_cut 1 = .ok (.ifCond .lt 11, 3) := by decide +kernel
theorem dX12_cut_4 : decode cX12_cut 4 = .ok (.iload_n 1, 1) := by decide +kernel
theorem dX12_cut_5 : decode cX12_cut 5 = .ok (.aload_n 0, 1) := by decide +kernel
theorem dX12_cut_6 : decode cX12_cut 6 = .ok (.getfield 345, 3) := by decide +kernel
theorem dX12_cut_9 : decode cX12_cut 9 = .ok (.if_icmp .le 5, 3) := by decide +kernel
theorem dX12_cut_12 : decode cX12_cut 12 = .ok (.iconst (-1), 1) := by decide +kernel
theorem dX12_cut_13 : decode cX12_cut 13 = .ok (.ireturn, 1) := by decide +kernel
theorem dX12_cut_14 : decode cX12_cut 14 = .ok (.aload_n 0, 1) := by decide +kernel
theorem dX12_cut_15 : decode cX12_cut 15 = .ok (.getfield 345, 3) := by decide +kernel
theorem dX12_cut_18 : decode cX12_cut 18 = .ok (.iload_n 1, 1) := by decide +kernel
theorem dX12_cut_19 : decode cX12_cut 19 = .ok (.isub, 1) := by decide +kernel
theorem dX12_cut_20 : decode cX12_cut 20 = .ok (.istore_n 2, 1) := by decide +kernel
theorem dX12_cut_21 : decode cX12_cut 21 = .ok (.aload_n 0, 1) := by decide +kernel
theorem dX12_cut_22 : decode cX12_cut 22 = .ok (.iload_n 1, 1) := by decide +kernel
theorem dX12_cut_23 : decode cX12_cut 23 = .ok (.putfield 345, 3) := by decide +kernel
theorem dX12_cut_26 : decode cX12_cut 26 = .ok (.iload_n 2, 1) := by decide +kernel
theorem dX12_cut_27 : decode cX12_cut 27 = .ok (.ireturn, 1) := by decide +kernel
theorem dX0_place_0 : decode cX0_place 0 = .ok (.aload_n 0, 1) := by decide +kernel
theorem dX0_place_1 : decode cX0_place 1 = .ok (.iconst 1, 1) := by decide +kernel
theorem dX0_place_2 : decode cX0_place 2 = .ok (.putfield 21, 3) := by decide +kernel
theorem dX0_place_5 : decode cX0_place 5 = .ok (.aload_n 0, 1) := by decide +kernel
theorem dX0_place_6 : decode cX0_place 6 = .ok (.iload_n 1, 1) := by decide +kernel
theorem dX0_place_7 : decode cX0_place 7 = .ok (.putfield 25, 3) := by decide +kernel
theorem dX0_place_10 : decode cX0_place 10 = .ok (.aload_n 0, 1) := by decide +kernel
theorem dX0_place_11 : decode cX0_place 11 = .ok (.iload_n 2, 1) := by decide +kernel
theorem dX0_place_12 : decode cX0_place 12 = .ok (.putfield 28, 3) := by decide +kernel
theorem dX0_place_15 : decode cX0_place 15 = .ok (.aload_n 0, 1) := by decide +kernel
theorem dX0_place_16 : decode cX0_place 16 = .ok (.iload_n 3, 1) := by decide +kernel
theorem dX0_place_17 : decode cX0_place 17 = .ok (.putfield 31, 3) := by decide +kernel
theorem dX0_place_20 : decode cX0_place 20 = .ok (.aload_n 0, 1) := by decide +kernel
theorem dX0_place_21 : decode cX0_place 21 = .ok (.iload 4, 2) := by decide +kernel
theorem dX0_place_23 : decode cX0_place 23 = .ok (.putfield 34, 3) := by decide +kernel
theorem dX0_place_26 : decode cX0_place 26 = .ok (.aload_n 0, 1) := by decide +kernel
theorem dX0_place_27 : decode cX0_place 27 = .ok (.iload_n 1, 1) := by decide +kernel
theorem dX0_place_28 : decode cX0_place 28 = .ok (.putfield 37, 3) := by decide +kernel
theorem dX0_place_31 : decode cX0_place 31 = .ok (.aload_n 0, 1) := by decide +kernel
theorem dX0_place_32 : decode cX0_place 32 = .ok (.iconst 0, 1) := by decide +kernel
theorem dX0_place_33 : decode cX0_place 33 = .ok (.putfield 40, 3) := by decide +kernel
theorem dX0_place_36 : decode cX0_place 36 = .ok (.aload_n 0, 1) := by decide +kernel
theorem dX0_place_37 : decode cX0_place 37 = .ok (.iconst (-1), 1) := by decide +kernel
theorem dX0_place_38 : decode cX0_place 38 = .ok (.putfield 9, 3) := by decide +kernel
theorem dX0_place_41 : decode cX0_place 41 = .ok (.aload_n 0, 1) := by decide +kernel
theorem dX0_place_42 : decode cX0_place 42 = .ok (.iload_n 1, 1) := by decide +kernel
theorem dX0_place_43 : decode cX0_place 43 = .ok (.putfield 43, 3) := by decide +kernel
theorem dX0_place_46 : decode cX0_place 46 = .ok (.aload_n 0, 1) := by decide +kernel
theorem dX0_place_47 : decode cX0_place 47 = .ok (.iload_n 1, 1) := by decide +kernel
theorem dX0_place_48 : decode cX0_place 48 = .ok (.putfield 46, 3) := by decide +kernel
theorem dX0_place_51 : decode cX0_place 51 = .ok (.aload_n 0, 1) := by decide +kernel
theorem dX0_place_52 : decode cX0_place 52 = .ok (.iconst 0, 1) := by decide +kernel
theorem dX0_place_53 : decode cX0_place 53 = .ok (.putfield 49, 3) := by decide +kernel
theorem dX0_place_56 : decode cX0_place 56 = .ok (.return_, 1) := by decide +kernel
theorem dX0_fail_0 : decode cX0_fail 0 = .ok (.aload_n 0, 1) := by decide +kernel
theorem dX0_fail_1 : decode cX0_fail 1 = .ok (.iload_n 1, 1) := by decide +kernel
theorem dX0_fail_2 : decode cX0_fail 2 = .ok (.putfield 49, 3) := by decide +kernel
theorem dX0_fail_5 : decode cX0_fail 5 = .ok (.iload_n 1, 1) := by decide +kernel
theorem dX0_fail_6 : decode cX0_fail 6 = .ok (.iconst 1, 1) := by decide +kernel
theorem dX0_fail_7 : decode cX0_fail 7 = .ok (.iand, 1) := by decide +kernel
theorem dX0_fail_8 : decode cX0_fail 8 = .ok (.ifCond .eq 8, 3) := by decide +kernel
theorem dX0_fail_11 : decode cX0_fail 11 = .ok (.aload_n 0, 1) := by decide +kernel
theorem dX0_fail_12 : decode cX0_fail 12 = .ok (.iconst (-1), 1) := by decide +kernel
theorem dX0_fail_13 : decode cX0_fail 13 = .ok (.putfield 9, 3) := by decide +kernel
theorem dX0_fail_16 : decode cX0_fail 16 = .ok (.return_, 1) := by decide +kernel
theorem dX0_tell_0 : decode cX0_tell 0 = .ok (.iload_n 1, 1) := by decide +kernel
theorem dX0_tell_1 : decode cX0_tell 1 = .ok (.ifCond .ne 16, 3) := by decide +kernel
theorem dX0_tell_4 : decode cX0_tell 4 = .ok (.aload_n 0, 1) := by decide +kernel
theorem dX0_tell_5 : decode cX0_tell 5 = .ok (.getfield 21, 3) := by decide +kernel
theorem dX0_tell_8 : decode cX0_tell 8 = .ok (.ifCond .eq 7, 3) := by decide +kernel
theorem dX0_tell_11 : decode cX0_tell 11 = .ok (.iconst 1, 1) := by decide +kernel
theorem dX0_tell_12 : decode cX0_tell 12 = .ok (.goto 4, 3) := by decide +kernel
theorem dX0_tell_15 : decode cX0_tell 15 = .ok (.iconst 0, 1) := by decide +kernel
theorem dX0_tell_16 : decode cX0_tell 16 = .ok (.ireturn, 1) := by decide +kernel
theorem dX0_tell_17 : decode cX0_tell 17 = .ok (.iload_n 1, 1) := by decide +kernel
theorem dX0_tell_18 : decode cX0_tell 18 = .ok (.bipush 7, 2) := by decide +kernel
theorem dX0_tell_20 : decode cX0_tell 20 = .ok (.if_icmp .ne 8, 3) := by decide +kernel
theorem dX0_tell_23 : decode cX0_tell 23 = .ok (.aload_n 0, 1) := by decide +kernel
theorem dX0_tell_24 : decode cX0_tell 24 = .ok (.getfield 52, 3) := by decide +kernel
theorem dX0_tell_27 : decode cX0_tell 27 = .ok (.ireturn, 1) := by decide +kernel
theorem dX0_tell_28 : decode cX0_tell 28 = .ok (.aload_n 0, 1) := by decide +kernel
theorem dX0_tell_29 : decode cX0_tell 29 = .ok (.getfield 21, 3) := by decide +kernel
theorem dX0_tell_32 : decode cX0_tell 32 = .ok (.ifCond .ne 5, 3) := by decide +kernel
theorem dX0_tell_35 : decode cX0_tell 35 = .ok (.iconst (-1), 1) := by decide +kernel
theorem dX0_tell_36 : decode cX0_tell 36 = .ok (.ireturn, 1) := by decide +kernel
theorem dX0_tell_37 : decode cX0_tell 37 = .ok (.iload_n 1, 1) := by decide +kernel
theorem dX0_tell_38 : decode cX0_tell 38 = .ok (.tableswitch 59 1 5 #[34, 39, 44, 49, 54], 34) := by decide +kernel
theorem dX0_tell_72 : decode cX0_tell 72 = .ok (.aload_n 0, 1) := by decide +kernel
theorem dX0_tell_73 : decode cX0_tell 73 = .ok (.getfield 37, 3) := by decide +kernel
theorem dX0_tell_76 : decode cX0_tell 76 = .ok (.ireturn, 1) := by decide +kernel
theorem dX0_tell_77 : decode cX0_tell 77 = .ok (.aload_n 0, 1) := by decide +kernel
theorem dX0_tell_78 : decode cX0_tell 78 = .ok (.getfield 40, 3) := by decide +kernel
theorem dX0_tell_81 : decode cX0_tell 81 = .ok (.ireturn, 1) := by decide +kernel
theorem dX0_tell_82 : decode cX0_tell 82 = .ok (.aload_n 0, 1) := by decide +kernel
theorem dX0_tell_83 : decode cX0_tell 83 = .ok (.getfield 9, 3) := by decide +kernel
theorem dX0_tell_86 : decode cX0_tell 86 = .ok (.ireturn, 1) := by decide +kernel
theorem dX0_tell_87 : decode cX0_tell 87 = .ok (.aload_n 0, 1) := by decide +kernel
theorem dX0_tell_88 : decode cX0_tell 88 = .ok (.getfield 43, 3) := by decide +kernel
theorem dX0_tell_91 : decode cX0_tell 91 = .ok (.ireturn, 1) := by decide +kernel
theorem dX0_tell_92 : decode cX0_tell 92 = .ok (.aload_n 0, 1) := by decide +kernel
theorem dX0_tell_93 : decode cX0_tell 93 = .ok (.getfield 49, 3) := by decide +kernel
theorem dX0_tell_96 : decode cX0_tell 96 = .ok (.ireturn, 1) := by decide +kernel
theorem dX0_tell_97 : decode cX0_tell 97 = .ok (.iconst (-1), 1) := by decide +kernel
theorem dX0_tell_98 : decode cX0_tell 98 = .ok (.ireturn, 1) := by decide +kernel
theorem dX9_append_0 : decode cX9_append 0 = .ok (.bipush 24, 2) := by decide +kernel
theorem dX9_append_2 : decode cX9_append 2 = .ok (.istore_n 2, 1) := by decide +kernel
theorem dX9_append_3 : decode cX9_append 3 = .ok (.iload_n 2, 1) := by decide +kernel
theorem dX9_append_4 : decode cX9_append 4 = .ok (.ifCond .lt 42, 3) := by decide +kernel
theorem dX9_append_7 : decode cX9_append 7 = .ok (.aload_n 0, 1) := by decide +kernel
theorem dX9_append_8 : decode cX9_append 8 = .ok (.getfield 15, 3) := by decide +kernel
theorem dX9_append_11 : decode cX9_append 11 = .ok (.sipush 4000, 3) := by decide +kernel
theorem dX9_append_14 : decode cX9_append 14 = .ok (.if_icmp .ge 32, 3) := by decide +kernel
theorem dX9_append_17 : decode cX9_append 17 = .ok (.aload_n 0, 1) := by decide +kernel
theorem dX9_append_18 : decode cX9_append 18 = .ok (.getfield 11, 3) := by decide +kernel
theorem dX9_append_21 : decode cX9_append 21 = .ok (.aload_n 0, 1) := by decide +kernel
theorem dX9_append_22 : decode cX9_append 22 = .ok (.getfield 15, 3) := by decide +kernel
theorem dX9_append_25 : decode cX9_append 25 = .ok (.iload_n 1, 1) := by decide +kernel
theorem dX9_append_26 : decode cX9_append 26 = .ok (.iload_n 2, 1) := by decide +kernel
theorem dX9_append_27 : decode cX9_append 27 = .ok (.ishr, 1) := by decide +kernel
theorem dX9_append_28 : decode cX9_append 28 = .ok (.i2b, 1) := by decide +kernel
theorem dX9_append_29 : decode cX9_append 29 = .ok (.bastore, 1) := by decide +kernel
theorem dX9_append_30 : decode cX9_append 30 = .ok (.aload_n 0, 1) := by decide +kernel
theorem dX9_append_31 : decode cX9_append 31 = .ok (.dup, 1) := by decide +kernel
theorem dX9_append_32 : decode cX9_append 32 = .ok (.getfield 15, 3) := by decide +kernel
theorem dX9_append_35 : decode cX9_append 35 = .ok (.iconst 1, 1) := by decide +kernel
theorem dX9_append_36 : decode cX9_append 36 = .ok (.iadd, 1) := by decide +kernel
theorem dX9_append_37 : decode cX9_append 37 = .ok (.putfield 15, 3) := by decide +kernel
theorem dX9_append_40 : decode cX9_append 40 = .ok (.iinc 2 (-8), 3) := by decide +kernel
theorem dX9_append_43 : decode cX9_append 43 = .ok (.goto (-40), 3) := by decide +kernel
theorem dX9_append_46 : decode cX9_append 46 = .ok (.return_, 1) := by decide +kernel
theorem dX9_hasRoom_0 : decode cX9_hasRoom 0 = .ok (.aload_n 0, 1) := by decide +kernel
theorem dX9_hasRoom_1 : decode cX9_hasRoom 1 = .ok (.getfield 15, 3) := by decide +kernel
theorem dX9_hasRoom_4 : decode cX9_hasRoom 4 = .ok (.bipush 20, 2) := by decide +kernel
theorem dX9_hasRoom_6 : decode cX9_hasRoom 6 = .ok (.iadd, 1) := by decide +kernel
theorem dX9_hasRoom_7 : decode cX9_hasRoom 7 = .ok (.sipush 4000, 3) := by decide +kernel
theorem dX9_hasRoom_10 : decode cX9_hasRoom 10 = .ok (.if_icmp .gt 7, 3) := by decide +kernel
theorem dX9_hasRoom_13 : decode cX9_hasRoom 13 = .ok (.iconst 1, 1) := by decide +kernel
theorem dX9_hasRoom_14 : decode cX9_hasRoom 14 = .ok (.goto 4, 3) := by decide +kernel
theorem dX9_hasRoom_17 : decode cX9_hasRoom 17 = .ok (.iconst 0, 1) := by decide +kernel
theorem dX9_hasRoom_18 : decode cX9_hasRoom 18 = .ok (.ireturn, 1) := by decide +kernel
theorem dX0_restsWithin_0 : decode cX0_restsWithin 0 = .ok (.iload_n 1, 1) := by decide +kernel
theorem dX0_restsWithin_1 : decode cX0_restsWithin 1 = .ok (.ifCond .le 21, 3) := by decide +kernel
theorem dX0_restsWithin_4 : decode cX0_restsWithin 4 = .ok (.aload_n 0, 1) := by decide +kernel
theorem dX0_restsWithin_5 : decode cX0_restsWithin 5 = .ok (.getfield 34, 3) := by decide +kernel
theorem dX0_restsWithin_8 : decode cX0_restsWithin 8 = .ok (.ifCond .le 14, 3) := by decide +kernel
theorem dX0_restsWithin_11 : decode cX0_restsWithin 11 = .ok (.iload_n 1, 1) := by decide +kernel
theorem dX0_restsWithin_12 : decode cX0_restsWithin 12 = .ok (.iconst 1, 1) := by decide +kernel
theorem dX0_restsWithin_13 : decode cX0_restsWithin 13 = .ok (.isub, 1) := by decide +kernel
theorem dX0_restsWithin_14 : decode cX0_restsWithin 14 = .ok (.aload_n 0, 1) := by decide +kernel
theorem dX0_restsWithin_15 : decode cX0_restsWithin 15 = .ok (.getfield 34, 3) := by decide +kernel
theorem dX0_restsWithin_18 : decode cX0_restsWithin 18 = .ok (.idiv, 1) := by decide +kernel
theorem dX0_restsWithin_19 : decode cX0_restsWithin 19 = .ok (.goto 4, 3) := by decide +kernel
theorem dX0_restsWithin_22 : decode cX0_restsWithin 22 = .ok (.iconst 0, 1) := by decide +kernel
theorem dX0_restsWithin_23 : decode cX0_restsWithin 23 = .ok (.istore_n 3, 1) := by decide +kernel
theorem dX0_restsWithin_24 : decode cX0_restsWithin 24 = .ok (.iload_n 1, 1) := by decide +kernel
theorem dX0_restsWithin_25 : decode cX0_restsWithin 25 = .ok (.iload_n 3, 1) := by decide +kernel
theorem dX0_restsWithin_26 : decode cX0_restsWithin 26 = .ok (.iload_n 1, 1) := by decide +kernel
theorem dX0_restsWithin_27 : decode cX0_restsWithin 27 = .ok (.imul, 1) := by decide +kernel
theorem dX0_restsWithin_28 : decode cX0_restsWithin 28 = .ok (.iadd, 1) := by decide +kernel
theorem dX0_restsWithin_29 : decode cX0_restsWithin 29 = .ok (.aload_n 0, 1) := by decide +kernel
theorem dX0_restsWithin_30 : decode cX0_restsWithin 30 = .ok (.getfield 34, 3) := by decide +kernel
theorem dX0_restsWithin_33 : decode cX0_restsWithin 33 = .ok (.iload_n 3, 1) := by decide +kernel
theorem dX0_restsWithin_34 : decode cX0_restsWithin 34 = .ok (.imul, 1) := by decide +kernel
theorem dX0_restsWithin_35 : decode cX0_restsWithin 35 = .ok (.iload_n 3, 1) := by decide +kernel
theorem dX0_restsWithin_36 : decode cX0_restsWithin 36 = .ok (.iconst 1, 1) := by decide +kernel
theorem dX0_restsWithin_37 : decode cX0_restsWithin 37 = .ok (.iadd, 1) := by decide +kernel
theorem dX0_restsWithin_38 : decode cX0_restsWithin 38 = .ok (.imul, 1) := by decide +kernel
theorem dX0_restsWithin_39 : decode cX0_restsWithin 39 = .ok (.iconst 2, 1) := by decide +kernel
theorem dX0_restsWithin_40 : decode cX0_restsWithin 40 = .ok (.idiv, 1) := by decide +kernel
theorem dX0_restsWithin_41 : decode cX0_restsWithin 41 = .ok (.isub, 1) := by decide +kernel
theorem dX0_restsWithin_42 : decode cX0_restsWithin 42 = .ok (.iload_n 2, 1) := by decide +kernel
theorem dX0_restsWithin_43 : decode cX0_restsWithin 43 = .ok (.if_icmp .gt 7, 3) := by decide +kernel
theorem dX0_restsWithin_46 : decode cX0_restsWithin 46 = .ok (.iconst 1, 1) := by decide +kernel
theorem dX0_restsWithin_47 : decode cX0_restsWithin 47 = .ok (.goto 4, 3) := by decide +kernel
theorem dX0_restsWithin_50 : decode cX0_restsWithin 50 = .ok (.iconst 0, 1) := by decide +kernel
theorem dX0_restsWithin_51 : decode cX0_restsWithin 51 = .ok (.ireturn, 1) := by decide +kernel
theorem dX12_nearest_0 : decode cX12_nearest 0 = .ok (.ldc2_w 351, 3) := by decide +kernel
theorem dX12_nearest_3 : decode cX12_nearest 3 = .ok (.lload_n 0, 1) := by decide +kernel
theorem dX12_nearest_4 : decode cX12_nearest 4 = .ok (.lmul, 1) := by decide +kernel
theorem dX12_nearest_5 : decode cX12_nearest 5 = .ok (.lload_n 2, 1) := by decide +kernel
theorem dX12_nearest_6 : decode cX12_nearest 6 = .ok (.ladd, 1) := by decide +kernel
theorem dX12_nearest_7 : decode cX12_nearest 7 = .ok (.lstore 4, 2) := by decide +kernel
theorem dX12_nearest_9 : decode cX12_nearest 9 = .ok (.lload 4, 2) := by decide +kernel
theorem dX12_nearest_11 : decode cX12_nearest 11 = .ok (.ldc2_w 351, 3) := by decide +kernel
theorem dX12_nearest_14 : decode cX12_nearest 14 = .ok (.lload_n 2, 1) := by decide +kernel
theorem dX12_nearest_15 : decode cX12_nearest 15 = .ok (.lmul, 1) := by decide +kernel
theorem dX12_nearest_16 : decode cX12_nearest 16 = .ok (.ldiv, 1) := by decide +kernel
theorem dX12_nearest_17 : decode cX12_nearest 17 = .ok (.lstore 6, 2) := by decide +kernel
theorem dX12_nearest_19 : decode cX12_nearest 19 = .ok (.lload 4, 2) := by decide +kernel
theorem dX12_nearest_21 : decode cX12_nearest 21 = .ok (.ldc2_w 351, 3) := by decide +kernel
theorem dX12_nearest_24 : decode cX12_nearest 24 = .ok (.lload_n 2, 1) := by decide +kernel
theorem dX12_nearest_25 : decode cX12_nearest 25 = .ok (.lmul, 1) := by decide +kernel
theorem dX12_nearest_26 : decode cX12_nearest 26 = .ok (.lrem, 1) := by decide +kernel
theorem dX12_nearest_27 : decode cX12_nearest 27 = .ok (.lconst 0, 1) := by decide +kernel
theorem dX12_nearest_28 : decode cX12_nearest 28 = .ok (.lcmp, 1) := by decide +kernel
theorem dX12_nearest_29 : decode cX12_nearest 29 = .ok (.ifCond .ge 10, 3) := by decide +kernel
theorem dX12_nearest_32 : decode cX12_nearest 32 = .ok (.lload 6, 2) := by decide +kernel
theorem dX12_nearest_34 : decode cX12_nearest 34 = .ok (.lconst 1, 1) := by decide +kernel
theorem dX12_nearest_35 : decode cX12_nearest 35 = .ok (.lsub, 1) := by decide +kernel
theorem dX12_nearest_36 : decode cX12_nearest 36 = .ok (.goto 5, 3) := by decide +kernel
theorem dX12_nearest_39 : decode cX12_nearest 39 = .ok (.lload 6, 2) := by decide +kernel
theorem dX12_nearest_41 : decode cX12_nearest 41 = .ok (.lreturn, 1) := by decide +kernel
/-! StageHouseModel.lay(I)V -/
def b_X12_lay_3_b (fu : Nat) (k_3 : Nat → Int32 → Int32 → St → Option (St)) (x0 : Nat) (x1 : Int32) (x2 : Int32)  (st : St) : Option (St) :=
  if x2 < 0 then (
  some st)
  else (
  ck (¬ gR st x0 0 = 0) <|
  ck ((kd x0).1 = 12) <|
  bd (gR st x0 0) fun o1 =>
  ck ((kd x0).1 = 12) <|
  ck ((kd o1).1 = 101 ∧ inb (gI st x0 1) (kd o1).2) <|
  bd (sI st o1 (ix (gI st x0 1)) ((x1 >>> (x2 &&& 31)).toInt8.toInt32).toInt8.toInt32) fun s2 =>
  ck ((kd x0).1 = 12) <|
  ck ((kd x0).1 = 12) <|
  bd (sI s2 x0 1 ((gI s2 x0 1) + 1)) fun s3 =>
  bd (x2 + (-8)) fun v4 =>
  k_3 x0 x1 v4  s3)
set_option maxHeartbeats 4000000 in
set_option maxRecDepth 100000 in
theorem t_X12_lay_3_b {X : CX} {res : St} (B : BV X cX12_lay RX12 3 1 NN none res) (fu : Nat) (k_3 : Nat → Int32 → Int32 → St → Option (St)) (h_3 : ∀ (x0 : Nat) (x1 : Int32) (x2 : Int32)  (st : St), WW X res NN 3 [(0, .ref (x_b X + x0)), (1, .int x1), (2, .int x2)] [] st (k_3 x0 x1 x2 st)) (x0 : Nat) (x1 : Int32) (x2 : Int32)  (st : St) : WW X res NN 3 [(0, .ref (x_b X + x0)), (1, .int x1), (2, .int x2)] [] st (b_X12_lay_3_b fu k_3 x0 x1 x2 st) := by
  have hX := B.1
  have hL := B.2.1
  unfold b_X12_lay_3_b
  refine ww_iload_n hX 2 rfl dX12_lay_3 rfl ?_
  refine ww_if_lt (tgt := 36) hX dX12_lay_4 (by decide) ?_ ?_
  · exact ww_vret B dX12_lay_36
  · refine ww_aload_n hX 0 rfl dX12_lay_7 rfl ?_
    refine ww_getR hX f_X12_9 (Or.inr ⟨_, rfl⟩) dX12_lay_8 ?_
    refine ww_bdR (fun o1 => ?_)
    refine ww_aload_n hX 0 rfl dX12_lay_11 rfl ?_
    refine ww_getI hX f_X12_345 (Or.inl rfl) dX12_lay_12 ?_
    refine ww_iload_n hX 1 rfl dX12_lay_15 rfl ?_
    refine ww_iload_n hX 2 rfl dX12_lay_16 rfl ?_
    refine ww_ishr hX dX12_lay_17 ?_
    refine ww_pc (b := 18) rfl ?_
    refine ww_i2b hX dX12_lay_18 ?_
    refine ww_bastc hX k_bast dX12_lay_19 ?_
    refine ww_bds (fun s2 => ?_)
    refine ww_aload_n hX 0 rfl dX12_lay_20 rfl ?_
    refine ww_dup hX rfl dX12_lay_21 ?_
    refine ww_getI hX f_X12_345 (Or.inl rfl) dX12_lay_22 ?_
    refine ww_iconst (v := 1) hX rfl dX12_lay_25 ?_
    refine ww_iadd hX dX12_lay_26 ?_
    refine ww_putI hX f_X12_345 rfl dX12_lay_27 ?_
    refine ww_bds (fun s3 => ?_)
    refine ww_pc (b := 30) rfl ?_
    refine ww_iincb (lv' := fun v4 => [(2, .int v4), (0, .ref (x_b X + x0)), (1, .int x1)]) (c := (-8)) hX hL 2 rfl dX12_lay_30 rfl (by decide) (fun _ => rfl) (fun v4 => ?_)
    refine ww_goto (tgt := 3) hX dX12_lay_33 (by decide) ?_
    exact ww_sub [1, 2, 0] rfl (h_3 x0 x1 v4  s3)
def b_X12_lay_3 (fu : Nat) : Nat → Nat → Int32 → Int32 → St → Option (St)
  | 0, _, _, _, _ => none
  | i + 1, x0, x1, x2, st => b_X12_lay_3_b fu (b_X12_lay_3 fu i) x0 x1 x2 st
theorem t_X12_lay_3 {X : CX} {res : St} (B : BV X cX12_lay RX12 3 1 NN none res) (fu : Nat) : ∀ (i : Nat) (x0 : Nat) (x1 : Int32) (x2 : Int32)  (st : St), WW X res NN 3 [(0, .ref (x_b X + x0)), (1, .int x1), (2, .int x2)] [] st (b_X12_lay_3 fu i x0 x1 x2 st) := by
  intro i
  induction i with
  | zero => intro x0 x1 x2 st; exact ww_none
  | succ i ih => intro x0 x1 x2 st; exact t_X12_lay_3_b B fu (b_X12_lay_3 fu i) ih x0 x1 x2 st
def f_X12_lay (fu : Nat) (th : Nat) (p1 : Int32) (st : St) : Option (St) :=
  b_X12_lay_3 fu fu th p1 24  st
set_option maxHeartbeats 4000000 in
set_option maxRecDepth 100000 in
theorem t_X12_lay {X : CX} {res : St} (B : BV X cX12_lay RX12 3 1 NN none res) (fu : Nat) (th : Nat) (p1 : Int32) (st : St) : WW X res NN 0 [(0, .ref (x_b X + th)), (1, .int p1)] [] st (f_X12_lay fu th p1 st) := by
  have hX := B.1
  have hL := B.2.1
  unfold f_X12_lay
  refine ww_bipush (v := 24) hX rfl dX12_lay_0 ?_
  refine ww_istore_n (lv' := [(2, .int 24), (0, .ref (x_b X + th)), (1, .int p1)]) hX hL dX12_lay_2 rfl (by decide) rfl ?_
  exact ww_sub [1, 2, 0] rfl (t_X12_lay_3 B fu fu th p1 24  st)
theorem c_X12_lay (G : GX) (l : Launch) (fu : Nat) (th : Nat) (p1 : Int32) (st : St) : MV G NN l yX12_lay cX12_lay 3 none 1 [.ref (G.2.2.1 + th), .int p1] st (f_X12_lay fu th p1 st) := mkV (by decide) (Nat.le_of_ble_eq_true rfl) (fun X res hl hG B => by subst hl; subst hG; exact t_X12_lay B fu th p1 st)
/-! StageHouseModel.feed(IIIII)I -/
def f_X12_feed (fu : Nat) (th : Nat) (p1 : Int32) (p2 : Int32) (p3 : Int32) (p4 : Int32) (p5 : Int32) (st : St) : Option (Int32 × St) :=
  ck ((kd th).1 = 12) <|
  if ((gI st th 1) + 20) ≤ 4000 then (
  ck ((kd th).1 = 12) <|
  cv (f_X12_lay fu th p1 st) fun s1 =>
  ck ((kd th).1 = 12) <|
  cv (f_X12_lay fu th p2 s1) fun s2 =>
  ck ((kd th).1 = 12) <|
  cv (f_X12_lay fu th p3 s2) fun s3 =>
  ck ((kd th).1 = 12) <|
  cv (f_X12_lay fu th p4 s3) fun s4 =>
  ck ((kd th).1 = 12) <|
  cv (f_X12_lay fu th p5 s4) fun s5 =>
  ck ((kd th).1 = 12) <|
  some (gI s5 th 1, s5))
  else (
  some ((-1), st))
set_option maxHeartbeats 4000000 in
set_option maxRecDepth 100000 in
theorem t_X12_feed {X : CX} {res : Int32 × St} (B : BI X cX12_feed RX12 6 2 NN (some .int) res) (fu : Nat) (th : Nat) (p1 : Int32) (p2 : Int32) (p3 : Int32) (p4 : Int32) (p5 : Int32) (st : St) : WW X res NN 0 [(0, .ref (x_b X + th)), (1, .int p1), (2, .int p2), (3, .int p3), (4, .int p4), (5, .int p5)] [] st (f_X12_feed fu th p1 p2 p3 p4 p5 st) := by
  have hX := B.1
  have hL := B.2.1
  unfold f_X12_feed
  refine ww_aload_n hX 0 rfl dX12_feed_0 rfl ?_
  refine ww_getI hX f_X12_345 (Or.inl rfl) dX12_feed_1 ?_
  refine ww_bipush (v := 20) hX rfl dX12_feed_4 ?_
  refine ww_iadd hX dX12_feed_6 ?_
  refine ww_sipush (v := 4000) hX rfl dX12_feed_7 ?_
  refine ww_icmp_le (tgt := 15) hX dX12_feed_10 (by decide) ?_ ?_
  · refine ww_aload_n hX 0 rfl dX12_feed_15 rfl ?_
    refine ww_iload_n hX 1 rfl dX12_feed_16 rfl ?_
    refine ww_callVV (As := [.int p1]) (rest := []) (o := th) hX (Rk.of B.2.2.1 B.2.2.2.1 (by decide) (by decide)) g_X12_348 g_X12_348.in (fun _ => c_X12_lay (x_G X) (x_l X) fu th p1 st) rfl rfl (Nat.le_of_ble_eq_true rfl) dX12_feed_17 (fun s1 => ?_)
    refine ww_aload_n hX 0 rfl dX12_feed_20 rfl ?_
    refine ww_iload_n hX 2 rfl dX12_feed_21 rfl ?_
    refine ww_callVV (As := [.int p2]) (rest := []) (o := th) hX (Rk.of B.2.2.1 B.2.2.2.1 (by decide) (by decide)) g_X12_348 g_X12_348.in (fun _ => c_X12_lay (x_G X) (x_l X) fu th p2 s1) rfl rfl (Nat.le_of_ble_eq_true rfl) dX12_feed_22 (fun s2 => ?_)
    refine ww_aload_n hX 0 rfl dX12_feed_25 rfl ?_
    refine ww_pc (b := 26) rfl ?_
    refine ww_iload_n hX 3 rfl dX12_feed_26 rfl ?_
    refine ww_callVV (As := [.int p3]) (rest := []) (o := th) hX (Rk.of B.2.2.1 B.2.2.2.1 (by decide) (by decide)) g_X12_348 g_X12_348.in (fun _ => c_X12_lay (x_G X) (x_l X) fu th p3 s2) rfl rfl (Nat.le_of_ble_eq_true rfl) dX12_feed_27 (fun s3 => ?_)
    refine ww_aload_n hX 0 rfl dX12_feed_30 rfl ?_
    refine ww_iload hX 4 rfl dX12_feed_31 ?_
    refine ww_callVV (As := [.int p4]) (rest := []) (o := th) hX (Rk.of B.2.2.1 B.2.2.2.1 (by decide) (by decide)) g_X12_348 g_X12_348.in (fun _ => c_X12_lay (x_G X) (x_l X) fu th p4 s3) rfl rfl (Nat.le_of_ble_eq_true rfl) dX12_feed_33 (fun s4 => ?_)
    refine ww_aload_n hX 0 rfl dX12_feed_36 rfl ?_
    refine ww_iload hX 5 rfl dX12_feed_37 ?_
    refine ww_callVV (As := [.int p5]) (rest := []) (o := th) hX (Rk.of B.2.2.1 B.2.2.2.1 (by decide) (by decide)) g_X12_348 g_X12_348.in (fun _ => c_X12_lay (x_G X) (x_l X) fu th p5 s4) rfl rfl (Nat.le_of_ble_eq_true rfl) dX12_feed_39 (fun s5 => ?_)
    refine ww_pc (b := 42) rfl ?_
    refine ww_aload_n hX 0 rfl dX12_feed_42 rfl ?_
    refine ww_getI hX f_X12_345 (Or.inl rfl) dX12_feed_43 ?_
    exact ww_iret B dX12_feed_46
  · refine ww_iconst (v := (-1)) hX rfl dX12_feed_13 ?_
    exact ww_iret B dX12_feed_14
theorem c_X12_feed (G : GX) (l : Launch) (fu : Nat) (th : Nat) (p1 : Int32) (p2 : Int32) (p3 : Int32) (p4 : Int32) (p5 : Int32) (st : St) : MI G NN l yX12_feed cX12_feed 6 (some .int) 2 [.ref (G.2.2.1 + th), .int p1, .int p2, .int p3, .int p4, .int p5] st (f_X12_feed fu th p1 p2 p3 p4 p5 st) := mkI (by decide) (Nat.le_of_ble_eq_true rfl) (fun X res hl hG B => by subst hl; subst hG; exact t_X12_feed B fu th p1 p2 p3 p4 p5 st)
/-! StageHouseModel.cut(I)I -/
def b_X12_cut_12 (fu : Nat)   (st : St) : Option (Int32 × St) :=
  some ((-1), st)
set_option maxHeartbeats 4000000 in
set_option maxRecDepth 100000 in
theorem t_X12_cut_12 {X : CX} {res : Int32 × St} (B : BI X cX12_cut RX12 3 1 NN (some .int) res) (fu : Nat)   (st : St) : WW X res NN 12 [] [] st (b_X12_cut_12 fu  st) := by
  have hX := B.1
  have hL := B.2.1
  unfold b_X12_cut_12
  refine ww_iconst (v := (-1)) hX rfl dX12_cut_12 ?_
  exact ww_iret B dX12_cut_13
def f_X12_cut (fu : Nat) (th : Nat) (p1 : Int32) (st : St) : Option (Int32 × St) :=
  if p1 < 0 then (
  b_X12_cut_12 fu   st)
  else (
  ck ((kd th).1 = 12) <|
  if p1 ≤ (gI st th 1) then (
  ck ((kd th).1 = 12) <|
  bd ((gI st th 1) - p1) fun v1 =>
  ck ((kd th).1 = 12) <|
  bd (sI st th 1 p1) fun s2 =>
  some (v1, s2))
  else (
  b_X12_cut_12 fu   st))
set_option maxHeartbeats 4000000 in
set_option maxRecDepth 100000 in
theorem t_X12_cut {X : CX} {res : Int32 × St} (B : BI X cX12_cut RX12 3 1 NN (some .int) res) (fu : Nat) (th : Nat) (p1 : Int32) (st : St) : WW X res NN 0 [(0, .ref (x_b X + th)), (1, .int p1)] [] st (f_X12_cut fu th p1 st) := by
  have hX := B.1
  have hL := B.2.1
  unfold f_X12_cut
  refine ww_iload_n hX 1 rfl dX12_cut_0 rfl ?_
  refine ww_if_lt (tgt := 12) hX dX12_cut_1 (by decide) ?_ ?_
  · exact ww_sub [] rfl (t_X12_cut_12 B fu   st)
  · refine ww_iload_n hX 1 rfl dX12_cut_4 rfl ?_
    refine ww_aload_n hX 0 rfl dX12_cut_5 rfl ?_
    refine ww_getI hX f_X12_345 (Or.inl rfl) dX12_cut_6 ?_
    refine ww_icmp_le (tgt := 14) hX dX12_cut_9 (by decide) ?_ ?_
    · refine ww_aload_n hX 0 rfl dX12_cut_14 rfl ?_
      refine ww_getI hX f_X12_345 (Or.inl rfl) dX12_cut_15 ?_
      refine ww_iload_n hX 1 rfl dX12_cut_18 rfl ?_
      refine ww_isub hX dX12_cut_19 ?_
      refine ww_bdi (fun v1 => ?_)
      refine ww_istore_n (lv' := [(2, .int v1), (0, .ref (x_b X + th)), (1, .int p1)]) hX hL dX12_cut_20 rfl (by decide) rfl ?_
      refine ww_aload_n hX 1 rfl dX12_cut_21 rfl ?_
      refine ww_iload_n hX 2 rfl dX12_cut_22 rfl ?_
      refine ww_pc (b := 23) rfl ?_
      refine ww_putI hX f_X12_345 rfl dX12_cut_23 ?_
      refine ww_bds (fun s2 => ?_)
      refine ww_iload_n hX 0 rfl dX12_cut_26 rfl ?_
      exact ww_iret B dX12_cut_27
    · exact ww_sub [] rfl (t_X12_cut_12 B fu   st)
theorem c_X12_cut (G : GX) (l : Launch) (fu : Nat) (th : Nat) (p1 : Int32) (st : St) : MI G NN l yX12_cut cX12_cut 3 (some .int) 1 [.ref (G.2.2.1 + th), .int p1] st (f_X12_cut fu th p1 st) := mkI (by decide) (Nat.le_of_ble_eq_true rfl) (fun X res hl hG B => by subst hl; subst hG; exact t_X12_cut B fu th p1 st)
/-! StageHouse$Axis.place(IIII)V -/
def f_X0_place (fu : Nat) (th : Nat) (p1 : Int32) (p2 : Int32) (p3 : Int32) (p4 : Int32) (st : St) : Option (St) :=
  ck (isb 1) <|
  ck ((kd th).1 = 0) <|
  bd (sI st th 0 1) fun s1 =>
  ck ((kd th).1 = 0) <|
  bd (sI s1 th 1 p1) fun s2 =>
  ck ((kd th).1 = 0) <|
  bd (sI s2 th 2 p2) fun s3 =>
  ck ((kd th).1 = 0) <|
  bd (sI s3 th 3 p3) fun s4 =>
  ck ((kd th).1 = 0) <|
  bd (sI s4 th 4 p4) fun s5 =>
  ck ((kd th).1 = 0) <|
  bd (sI s5 th 5 p1) fun s6 =>
  ck ((kd th).1 = 0) <|
  bd (sI s6 th 6 0) fun s7 =>
  ck ((kd th).1 = 0) <|
  bd (sI s7 th 7 ((-1))) fun s8 =>
  ck ((kd th).1 = 0) <|
  bd (sI s8 th 8 p1) fun s9 =>
  ck ((kd th).1 = 0) <|
  bd (sI s9 th 9 p1) fun s10 =>
  ck ((kd th).1 = 0) <|
  bd (sI s10 th 10 0) fun s11 =>
  some s11
set_option maxHeartbeats 4000000 in
set_option maxRecDepth 100000 in
theorem t_X0_place {X : CX} {res : St} (B : BV X cX0_place RX0 5 1 NN none res) (fu : Nat) (th : Nat) (p1 : Int32) (p2 : Int32) (p3 : Int32) (p4 : Int32) (st : St) : WW X res NN 0 [(0, .ref (x_b X + th)), (1, .int p1), (2, .int p2), (3, .int p3), (4, .int p4)] [] st (f_X0_place fu th p1 p2 p3 p4 st) := by
  have hX := B.1
  have hL := B.2.1
  unfold f_X0_place
  refine ww_aload_n hX 0 rfl dX0_place_0 rfl ?_
  refine ww_iconst (v := 1) hX rfl dX0_place_1 ?_
  refine ww_putZ hX f_X0_21 rfl dX0_place_2 ?_
  refine ww_bds (fun s1 => ?_)
  refine ww_aload_n hX 0 rfl dX0_place_5 rfl ?_
  refine ww_iload_n hX 1 rfl dX0_place_6 rfl ?_
  refine ww_putI hX f_X0_25 rfl dX0_place_7 ?_
  refine ww_bds (fun s2 => ?_)
  refine ww_aload_n hX 0 rfl dX0_place_10 rfl ?_
  refine ww_pc (b := 11) rfl ?_
  refine ww_iload_n hX 2 rfl dX0_place_11 rfl ?_
  refine ww_putI hX f_X0_28 rfl dX0_place_12 ?_
  refine ww_bds (fun s3 => ?_)
  refine ww_aload_n hX 0 rfl dX0_place_15 rfl ?_
  refine ww_iload_n hX 3 rfl dX0_place_16 rfl ?_
  refine ww_putI hX f_X0_31 rfl dX0_place_17 ?_
  refine ww_bds (fun s4 => ?_)
  refine ww_aload_n hX 0 rfl dX0_place_20 rfl ?_
  refine ww_iload hX 4 rfl dX0_place_21 ?_
  refine ww_putI hX f_X0_34 rfl dX0_place_23 ?_
  refine ww_bds (fun s5 => ?_)
  refine ww_pc (b := 26) rfl ?_
  refine ww_aload_n hX 0 rfl dX0_place_26 rfl ?_
  refine ww_iload_n hX 1 rfl dX0_place_27 rfl ?_
  refine ww_putI hX f_X0_37 rfl dX0_place_28 ?_
  refine ww_bds (fun s6 => ?_)
  refine ww_aload_n hX 0 rfl dX0_place_31 rfl ?_
  refine ww_iconst (v := 0) hX rfl dX0_place_32 ?_
  refine ww_putI hX f_X0_40 rfl dX0_place_33 ?_
  refine ww_bds (fun s7 => ?_)
  refine ww_aload_n hX 0 rfl dX0_place_36 rfl ?_
  refine ww_iconst (v := (-1)) hX rfl dX0_place_37 ?_
  refine ww_pc (b := 38) rfl ?_
  refine ww_putI hX f_X0_9 rfl dX0_place_38 ?_
  refine ww_bds (fun s8 => ?_)
  refine ww_aload_n hX 0 rfl dX0_place_41 rfl ?_
  refine ww_iload_n hX 1 rfl dX0_place_42 rfl ?_
  refine ww_putI hX f_X0_43 rfl dX0_place_43 ?_
  refine ww_bds (fun s9 => ?_)
  refine ww_aload_n hX 0 rfl dX0_place_46 rfl ?_
  refine ww_iload_n hX 1 rfl dX0_place_47 rfl ?_
  refine ww_putI hX f_X0_46 rfl dX0_place_48 ?_
  refine ww_bds (fun s10 => ?_)
  refine ww_aload_n hX 0 rfl dX0_place_51 rfl ?_
  refine ww_pc (b := 52) rfl ?_
  refine ww_iconst (v := 0) hX rfl dX0_place_52 ?_
  refine ww_putI hX f_X0_49 rfl dX0_place_53 ?_
  refine ww_bds (fun s11 => ?_)
  exact ww_vret B dX0_place_56
theorem c_X0_place (G : GX) (l : Launch) (fu : Nat) (th : Nat) (p1 : Int32) (p2 : Int32) (p3 : Int32) (p4 : Int32) (st : St) : MV G NN l yX0_place cX0_place 5 none 1 [.ref (G.2.2.1 + th), .int p1, .int p2, .int p3, .int p4] st (f_X0_place fu th p1 p2 p3 p4 st) := mkV (by decide) (Nat.le_of_ble_eq_true rfl) (fun X res hl hG B => by subst hl; subst hG; exact t_X0_place B fu th p1 p2 p3 p4 st)
/-! StageHouse$Axis.fail(I)V -/
def b_X0_fail_16 (fu : Nat)   (st : St) : Option (St) :=
  some st
set_option maxHeartbeats 4000000 in
set_option maxRecDepth 100000 in
theorem t_X0_fail_16 {X : CX} {res : St} (B : BV X cX0_fail RX0 2 1 NN none res) (fu : Nat)   (st : St) : WW X res NN 16 [] [] st (b_X0_fail_16 fu  st) := by
  have hX := B.1
  have hL := B.2.1
  unfold b_X0_fail_16
  exact ww_vret B dX0_fail_16
def f_X0_fail (fu : Nat) (th : Nat) (p1 : Int32) (st : St) : Option (St) :=
  ck ((kd th).1 = 0) <|
  bd (sI st th 10 p1) fun s1 =>
  if (p1 &&& 1) = 0 then (
  b_X0_fail_16 fu   s1)
  else (
  ck ((kd th).1 = 0) <|
  bd (sI s1 th 7 ((-1))) fun s2 =>
  b_X0_fail_16 fu   s2)
set_option maxHeartbeats 4000000 in
set_option maxRecDepth 100000 in
theorem t_X0_fail {X : CX} {res : St} (B : BV X cX0_fail RX0 2 1 NN none res) (fu : Nat) (th : Nat) (p1 : Int32) (st : St) : WW X res NN 0 [(0, .ref (x_b X + th)), (1, .int p1)] [] st (f_X0_fail fu th p1 st) := by
  have hX := B.1
  have hL := B.2.1
  unfold f_X0_fail
  refine ww_aload_n hX 0 rfl dX0_fail_0 rfl ?_
  refine ww_iload_n hX 1 rfl dX0_fail_1 rfl ?_
  refine ww_putI hX f_X0_49 rfl dX0_fail_2 ?_
  refine ww_bds (fun s1 => ?_)
  refine ww_iload_n hX 1 rfl dX0_fail_5 rfl ?_
  refine ww_iconst (v := 1) hX rfl dX0_fail_6 ?_
  refine ww_iand hX dX0_fail_7 ?_
  refine ww_if_eq (tgt := 16) hX dX0_fail_8 (by decide) ?_ ?_
  · exact ww_sub [] rfl (t_X0_fail_16 B fu   s1)
  · refine ww_aload_n hX 0 rfl dX0_fail_11 rfl ?_
    refine ww_iconst (v := (-1)) hX rfl dX0_fail_12 ?_
    refine ww_putI hX f_X0_9 rfl dX0_fail_13 ?_
    refine ww_bds (fun s2 => ?_)
    exact ww_sub [] rfl (t_X0_fail_16 B fu   s2)
theorem c_X0_fail (G : GX) (l : Launch) (fu : Nat) (th : Nat) (p1 : Int32) (st : St) : MV G NN l yX0_fail cX0_fail 2 none 1 [.ref (G.2.2.1 + th), .int p1] st (f_X0_fail fu th p1 st) := mkV (by decide) (Nat.le_of_ble_eq_true rfl) (fun X res hl hG B => by subst hl; subst hG; exact t_X0_fail B fu th p1 st)
/-! StageHouse$Axis.tell(I)I -/
def b_X0_tell_16 (fu : Nat)  (y0 : Int32) (st : St) : Option (Int32 × St) :=
  some (y0, st)
set_option maxHeartbeats 4000000 in
set_option maxRecDepth 100000 in
theorem t_X0_tell_16 {X : CX} {res : Int32 × St} (B : BI X cX0_tell RX0 2 1 NN (some .int) res) (fu : Nat)  (y0 : Int32) (st : St) : WW X res NN 16 [] [.int y0] st (b_X0_tell_16 fu y0 st) := by
  have hX := B.1
  have hL := B.2.1
  unfold b_X0_tell_16
  exact ww_iret B dX0_tell_16
def f_X0_tell (fu : Nat) (th : Nat) (p1 : Int32) (st : St) : Option (Int32 × St) :=
  if p1 = 0 then (
  ck ((kd th).1 = 0) <|
  if (gI st th 0) = 0 then (
  b_X0_tell_16 fu  0 st)
  else (
  b_X0_tell_16 fu  1 st))
  else (
  if p1 = 7 then (
  ck ((kd th).1 = 0) <|
  some (gI st th 11, st))
  else (
  ck ((kd th).1 = 0) <|
  if (gI st th 0) = 0 then (
  some ((-1), st))
  else (
  if p1 = 1 then (
  ck ((kd th).1 = 0) <|
  some (gI st th 5, st))
  else if p1 = 2 then (
  ck ((kd th).1 = 0) <|
  some (gI st th 6, st))
  else if p1 = 3 then (
  ck ((kd th).1 = 0) <|
  some (gI st th 7, st))
  else if p1 = 4 then (
  ck ((kd th).1 = 0) <|
  some (gI st th 8, st))
  else if p1 = 5 then (
  ck ((kd th).1 = 0) <|
  some (gI st th 10, st))
  else (
  some ((-1), st)))))
set_option maxHeartbeats 4000000 in
set_option maxRecDepth 100000 in
theorem t_X0_tell {X : CX} {res : Int32 × St} (B : BI X cX0_tell RX0 2 1 NN (some .int) res) (fu : Nat) (th : Nat) (p1 : Int32) (st : St) : WW X res NN 0 [(0, .ref (x_b X + th)), (1, .int p1)] [] st (f_X0_tell fu th p1 st) := by
  have hX := B.1
  have hL := B.2.1
  unfold f_X0_tell
  refine ww_iload_n hX 1 rfl dX0_tell_0 rfl ?_
  refine ww_if_ne (tgt := 17) hX dX0_tell_1 (by decide) ?_ ?_
  · refine ww_iload_n hX 1 rfl dX0_tell_17 rfl ?_
    refine ww_bipush (v := 7) hX rfl dX0_tell_18 ?_
    refine ww_icmp_ne (tgt := 28) hX dX0_tell_20 (by decide) ?_ ?_
    · refine ww_aload_n hX 0 rfl dX0_tell_28 rfl ?_
      refine ww_getI hX f_X0_21 (Or.inr rfl) dX0_tell_29 ?_
      refine ww_if_ne (tgt := 37) hX dX0_tell_32 (by decide) ?_ ?_
      · refine ww_iload_n hX 1 rfl dX0_tell_37 rfl ?_
        refine ww_if (fun c38_0 => ?_) (fun c38_0 => ?_)
        · refine ww_tsw (off := 34) (tgt := 72) hX dX0_tell_38 (by rw [c38_0]; decide) (by rw [c38_0]; decide) (by rw [c38_0]; rfl) (by decide) ?_
          refine ww_aload_n hX 0 rfl dX0_tell_72 rfl ?_
          refine ww_getI hX f_X0_37 (Or.inl rfl) dX0_tell_73 ?_
          exact ww_iret B dX0_tell_76
        refine ww_if (fun c38_1 => ?_) (fun c38_1 => ?_)
        · refine ww_tsw (off := 39) (tgt := 77) hX dX0_tell_38 (by rw [c38_1]; decide) (by rw [c38_1]; decide) (by rw [c38_1]; rfl) (by decide) ?_
          refine ww_aload_n hX 0 rfl dX0_tell_77 rfl ?_
          refine ww_getI hX f_X0_40 (Or.inl rfl) dX0_tell_78 ?_
          exact ww_iret B dX0_tell_81
        refine ww_if (fun c38_2 => ?_) (fun c38_2 => ?_)
        · refine ww_tsw (off := 44) (tgt := 82) hX dX0_tell_38 (by rw [c38_2]; decide) (by rw [c38_2]; decide) (by rw [c38_2]; rfl) (by decide) ?_
          refine ww_aload_n hX 0 rfl dX0_tell_82 rfl ?_
          refine ww_getI hX f_X0_9 (Or.inl rfl) dX0_tell_83 ?_
          exact ww_iret B dX0_tell_86
        refine ww_if (fun c38_3 => ?_) (fun c38_3 => ?_)
        · refine ww_tsw (off := 49) (tgt := 87) hX dX0_tell_38 (by rw [c38_3]; decide) (by rw [c38_3]; decide) (by rw [c38_3]; rfl) (by decide) ?_
          refine ww_aload_n hX 0 rfl dX0_tell_87 rfl ?_
          refine ww_getI hX f_X0_43 (Or.inl rfl) dX0_tell_88 ?_
          exact ww_iret B dX0_tell_91
        refine ww_if (fun c38_4 => ?_) (fun c38_4 => ?_)
        · refine ww_tsw (off := 54) (tgt := 92) hX dX0_tell_38 (by rw [c38_4]; decide) (by rw [c38_4]; decide) (by rw [c38_4]; rfl) (by decide) ?_
          refine ww_aload_n hX 0 rfl dX0_tell_92 rfl ?_
          refine ww_getI hX f_X0_49 (Or.inl rfl) dX0_tell_93 ?_
          exact ww_iret B dX0_tell_96
        refine ww_tswd (tgt := 97) hX dX0_tell_38 (by have z0 : p1.toInt ≠ 1 := fun q => c38_0 (Int32.toInt_inj.mp (q.trans (by decide))); have z1 : p1.toInt ≠ 2 := fun q => c38_1 (Int32.toInt_inj.mp (q.trans (by decide))); have z2 : p1.toInt ≠ 3 := fun q => c38_2 (Int32.toInt_inj.mp (q.trans (by decide))); have z3 : p1.toInt ≠ 4 := fun q => c38_3 (Int32.toInt_inj.mp (q.trans (by decide))); have z4 : p1.toInt ≠ 5 := fun q => c38_4 (Int32.toInt_inj.mp (q.trans (by decide))); omega) (by decide) ?_
        refine ww_iconst (v := (-1)) hX rfl dX0_tell_97 ?_
        exact ww_iret B dX0_tell_98
      · refine ww_iconst (v := (-1)) hX rfl dX0_tell_35 ?_
        exact ww_iret B dX0_tell_36
    · refine ww_aload_n hX 0 rfl dX0_tell_23 rfl ?_
      refine ww_getI hX f_X0_52 (Or.inl rfl) dX0_tell_24 ?_
      exact ww_iret B dX0_tell_27
  · refine ww_aload_n hX 0 rfl dX0_tell_4 rfl ?_
    refine ww_getI hX f_X0_21 (Or.inr rfl) dX0_tell_5 ?_
    refine ww_if_eq (tgt := 15) hX dX0_tell_8 (by decide) ?_ ?_
    · refine ww_iconst (v := 0) hX rfl dX0_tell_15 ?_
      exact ww_sub [] rfl (t_X0_tell_16 B fu  0 st)
    · refine ww_iconst (v := 1) hX rfl dX0_tell_11 ?_
      refine ww_goto (tgt := 16) hX dX0_tell_12 (by decide) ?_
      exact ww_sub [] rfl (t_X0_tell_16 B fu  1 st)
theorem c_X0_tell (G : GX) (l : Launch) (fu : Nat) (th : Nat) (p1 : Int32) (st : St) : MI G NN l yX0_tell cX0_tell 2 (some .int) 1 [.ref (G.2.2.1 + th), .int p1] st (f_X0_tell fu th p1 st) := mkI (by decide) (Nat.le_of_ble_eq_true rfl) (fun X res hl hG B => by subst hl; subst hG; exact t_X0_tell B fu th p1 st)
/-! StageHouse$Tape.append(I)V -/
def b_X9_append_46 (fu : Nat)   (st : St) : Option (St) :=
  some st
set_option maxHeartbeats 4000000 in
set_option maxRecDepth 100000 in
theorem t_X9_append_46 {X : CX} {res : St} (B : BV X cX9_append RX9 3 1 NN none res) (fu : Nat)   (st : St) : WW X res NN 46 [] [] st (b_X9_append_46 fu  st) := by
  have hX := B.1
  have hL := B.2.1
  unfold b_X9_append_46
  exact ww_vret B dX9_append_46
def b_X9_append_3_b (fu : Nat) (k_3 : Nat → Int32 → Int32 → St → Option (St)) (x0 : Nat) (x1 : Int32) (x2 : Int32)  (st : St) : Option (St) :=
  if x2 < 0 then (
  b_X9_append_46 fu   st)
  else (
  ck ((kd x0).1 = 9) <|
  if 4000 ≤ (gI st x0 1) then (
  b_X9_append_46 fu   st)
  else (
  ck (¬ gR st x0 0 = 0) <|
  ck ((kd x0).1 = 9) <|
  bd (gR st x0 0) fun o1 =>
  ck ((kd x0).1 = 9) <|
  ck ((kd o1).1 = 101 ∧ inb (gI st x0 1) (kd o1).2) <|
  bd (sI st o1 (ix (gI st x0 1)) ((x1 >>> (x2 &&& 31)).toInt8.toInt32).toInt8.toInt32) fun s2 =>
  ck ((kd x0).1 = 9) <|
  ck ((kd x0).1 = 9) <|
  bd (sI s2 x0 1 ((gI s2 x0 1) + 1)) fun s3 =>
  bd (x2 + (-8)) fun v4 =>
  k_3 x0 x1 v4  s3))
set_option maxHeartbeats 4000000 in
set_option maxRecDepth 100000 in
theorem t_X9_append_3_b {X : CX} {res : St} (B : BV X cX9_append RX9 3 1 NN none res) (fu : Nat) (k_3 : Nat → Int32 → Int32 → St → Option (St)) (h_3 : ∀ (x0 : Nat) (x1 : Int32) (x2 : Int32)  (st : St), WW X res NN 3 [(0, .ref (x_b X + x0)), (1, .int x1), (2, .int x2)] [] st (k_3 x0 x1 x2 st)) (x0 : Nat) (x1 : Int32) (x2 : Int32)  (st : St) : WW X res NN 3 [(0, .ref (x_b X + x0)), (1, .int x1), (2, .int x2)] [] st (b_X9_append_3_b fu k_3 x0 x1 x2 st) := by
  have hX := B.1
  have hL := B.2.1
  unfold b_X9_append_3_b
  refine ww_iload_n hX 2 rfl dX9_append_3 rfl ?_
  refine ww_if_lt (tgt := 46) hX dX9_append_4 (by decide) ?_ ?_
  · exact ww_sub [] rfl (t_X9_append_46 B fu   st)
  · refine ww_aload_n hX 0 rfl dX9_append_7 rfl ?_
    refine ww_getI hX f_X9_15 (Or.inl rfl) dX9_append_8 ?_
    refine ww_sipush (v := 4000) hX rfl dX9_append_11 ?_
    refine ww_icmp_ge (tgt := 46) hX dX9_append_14 (by decide) ?_ ?_
    · exact ww_sub [] rfl (t_X9_append_46 B fu   st)
    · refine ww_aload_n hX 0 rfl dX9_append_17 rfl ?_
      refine ww_getR hX f_X9_11 (Or.inr ⟨_, rfl⟩) dX9_append_18 ?_
      refine ww_bdR (fun o1 => ?_)
      refine ww_aload_n hX 0 rfl dX9_append_21 rfl ?_
      refine ww_getI hX f_X9_15 (Or.inl rfl) dX9_append_22 ?_
      refine ww_iload_n hX 1 rfl dX9_append_25 rfl ?_
      refine ww_iload_n hX 2 rfl dX9_append_26 rfl ?_
      refine ww_ishr hX dX9_append_27 ?_
      refine ww_pc (b := 28) rfl ?_
      refine ww_i2b hX dX9_append_28 ?_
      refine ww_bastc hX k_bast dX9_append_29 ?_
      refine ww_bds (fun s2 => ?_)
      refine ww_aload_n hX 0 rfl dX9_append_30 rfl ?_
      refine ww_dup hX rfl dX9_append_31 ?_
      refine ww_getI hX f_X9_15 (Or.inl rfl) dX9_append_32 ?_
      refine ww_iconst (v := 1) hX rfl dX9_append_35 ?_
      refine ww_iadd hX dX9_append_36 ?_
      refine ww_putI hX f_X9_15 rfl dX9_append_37 ?_
      refine ww_bds (fun s3 => ?_)
      refine ww_pc (b := 40) rfl ?_
      refine ww_iincb (lv' := fun v4 => [(2, .int v4), (0, .ref (x_b X + x0)), (1, .int x1)]) (c := (-8)) hX hL 2 rfl dX9_append_40 rfl (by decide) (fun _ => rfl) (fun v4 => ?_)
      refine ww_goto (tgt := 3) hX dX9_append_43 (by decide) ?_
      exact ww_sub [1, 2, 0] rfl (h_3 x0 x1 v4  s3)
def b_X9_append_3 (fu : Nat) : Nat → Nat → Int32 → Int32 → St → Option (St)
  | 0, _, _, _, _ => none
  | i + 1, x0, x1, x2, st => b_X9_append_3_b fu (b_X9_append_3 fu i) x0 x1 x2 st
theorem t_X9_append_3 {X : CX} {res : St} (B : BV X cX9_append RX9 3 1 NN none res) (fu : Nat) : ∀ (i : Nat) (x0 : Nat) (x1 : Int32) (x2 : Int32)  (st : St), WW X res NN 3 [(0, .ref (x_b X + x0)), (1, .int x1), (2, .int x2)] [] st (b_X9_append_3 fu i x0 x1 x2 st) := by
  intro i
  induction i with
  | zero => intro x0 x1 x2 st; exact ww_none
  | succ i ih => intro x0 x1 x2 st; exact t_X9_append_3_b B fu (b_X9_append_3 fu i) ih x0 x1 x2 st
def f_X9_append (fu : Nat) (th : Nat) (p1 : Int32) (st : St) : Option (St) :=
  b_X9_append_3 fu fu th p1 24  st
set_option maxHeartbeats 4000000 in
set_option maxRecDepth 100000 in
theorem t_X9_append {X : CX} {res : St} (B : BV X cX9_append RX9 3 1 NN none res) (fu : Nat) (th : Nat) (p1 : Int32) (st : St) : WW X res NN 0 [(0, .ref (x_b X + th)), (1, .int p1)] [] st (f_X9_append fu th p1 st) := by
  have hX := B.1
  have hL := B.2.1
  unfold f_X9_append
  refine ww_bipush (v := 24) hX rfl dX9_append_0 ?_
  refine ww_istore_n (lv' := [(2, .int 24), (0, .ref (x_b X + th)), (1, .int p1)]) hX hL dX9_append_2 rfl (by decide) rfl ?_
  exact ww_sub [1, 2, 0] rfl (t_X9_append_3 B fu fu th p1 24  st)
theorem c_X9_append (G : GX) (l : Launch) (fu : Nat) (th : Nat) (p1 : Int32) (st : St) : MV G NN l yX9_append cX9_append 3 none 1 [.ref (G.2.2.1 + th), .int p1] st (f_X9_append fu th p1 st) := mkV (by decide) (Nat.le_of_ble_eq_true rfl) (fun X res hl hG B => by subst hl; subst hG; exact t_X9_append B fu th p1 st)
/-! StageHouse$Tape.hasRoom()Z -/
def b_X9_hasRoom_18 (fu : Nat)  (y0 : Int32) (st : St) : Option (Int32 × St) :=
  ck (isb y0) (some (y0, st))
set_option maxHeartbeats 4000000 in
set_option maxRecDepth 100000 in
theorem t_X9_hasRoom_18 {X : CX} {res : Int32 × St} (B : BI X cX9_hasRoom RX9 1 1 NN (some .boolean) res) (fu : Nat)  (y0 : Int32) (st : St) : WW X res NN 18 [] [.int y0] st (b_X9_hasRoom_18 fu y0 st) := by
  have hX := B.1
  have hL := B.2.1
  unfold b_X9_hasRoom_18
  exact ww_zret B dX9_hasRoom_18
def f_X9_hasRoom (fu : Nat) (th : Nat) (st : St) : Option (Int32 × St) :=
  ck ((kd th).1 = 9) <|
  if 4000 < ((gI st th 1) + 20) then (
  b_X9_hasRoom_18 fu  0 st)
  else (
  b_X9_hasRoom_18 fu  1 st)
set_option maxHeartbeats 4000000 in
set_option maxRecDepth 100000 in
theorem t_X9_hasRoom {X : CX} {res : Int32 × St} (B : BI X cX9_hasRoom RX9 1 1 NN (some .boolean) res) (fu : Nat) (th : Nat) (st : St) : WW X res NN 0 [(0, .ref (x_b X + th))] [] st (f_X9_hasRoom fu th st) := by
  have hX := B.1
  have hL := B.2.1
  unfold f_X9_hasRoom
  refine ww_aload_n hX 0 rfl dX9_hasRoom_0 rfl ?_
  refine ww_getI hX f_X9_15 (Or.inl rfl) dX9_hasRoom_1 ?_
  refine ww_bipush (v := 20) hX rfl dX9_hasRoom_4 ?_
  refine ww_iadd hX dX9_hasRoom_6 ?_
  refine ww_sipush (v := 4000) hX rfl dX9_hasRoom_7 ?_
  refine ww_icmp_gt (tgt := 17) hX dX9_hasRoom_10 (by decide) ?_ ?_
  · refine ww_iconst (v := 0) hX rfl dX9_hasRoom_17 ?_
    exact ww_sub [] rfl (t_X9_hasRoom_18 B fu  0 st)
  · refine ww_iconst (v := 1) hX rfl dX9_hasRoom_13 ?_
    refine ww_goto (tgt := 18) hX dX9_hasRoom_14 (by decide) ?_
    exact ww_sub [] rfl (t_X9_hasRoom_18 B fu  1 st)
theorem c_X9_hasRoom (G : GX) (l : Launch) (fu : Nat) (th : Nat) (st : St) : MI G NN l yX9_hasRoom cX9_hasRoom 1 (some .boolean) 1 [.ref (G.2.2.1 + th)] st (f_X9_hasRoom fu th st) := mkI (by decide) (Nat.le_of_ble_eq_true rfl) (fun X res hl hG B => by subst hl; subst hG; exact t_X9_hasRoom B fu th st)
/-! StageHouse$Axis.restsWithin(II)Z -/
def b_X0_restsWithin_51 (fu : Nat)  (y0 : Int32) (st : St) : Option (Int32 × St) :=
  ck (isb y0) (some (y0, st))
set_option maxHeartbeats 4000000 in
set_option maxRecDepth 100000 in
theorem t_X0_restsWithin_51 {X : CX} {res : Int32 × St} (B : BI X cX0_restsWithin RX0 4 1 NN (some .boolean) res) (fu : Nat)  (y0 : Int32) (st : St) : WW X res NN 51 [] [.int y0] st (b_X0_restsWithin_51 fu y0 st) := by
  have hX := B.1
  have hL := B.2.1
  unfold b_X0_restsWithin_51
  exact ww_zret B dX0_restsWithin_51
def b_X0_restsWithin_23 (fu : Nat) (x0 : Nat) (x1 : Int32) (x2 : Int32) (y0 : Int32) (st : St) : Option (Int32 × St) :=
  ck ((kd x0).1 = 0) <|
  ck (¬ 2 = 0) <|
  if x2 < ((x1 + (y0 * x1)) - ((((gI st x0 4) * y0) * (y0 + 1)) / 2)) then (
  b_X0_restsWithin_51 fu  0 st)
  else (
  b_X0_restsWithin_51 fu  1 st)
set_option maxHeartbeats 4000000 in
set_option maxRecDepth 100000 in
theorem t_X0_restsWithin_23 {X : CX} {res : Int32 × St} (B : BI X cX0_restsWithin RX0 4 1 NN (some .boolean) res) (fu : Nat) (x0 : Nat) (x1 : Int32) (x2 : Int32) (y0 : Int32) (st : St) : WW X res NN 23 [(0, .ref (x_b X + x0)), (1, .int x1), (2, .int x2)] [.int y0] st (b_X0_restsWithin_23 fu x0 x1 x2 y0 st) := by
  have hX := B.1
  have hL := B.2.1
  unfold b_X0_restsWithin_23
  refine ww_istore_n (lv' := [(3, .int y0), (0, .ref (x_b X + x0)), (1, .int x1), (2, .int x2)]) hX hL dX0_restsWithin_23 rfl (by decide) rfl ?_
  refine ww_iload_n hX 2 rfl dX0_restsWithin_24 rfl ?_
  refine ww_iload_n hX 0 rfl dX0_restsWithin_25 rfl ?_
  refine ww_iload_n hX 2 rfl dX0_restsWithin_26 rfl ?_
  refine ww_imul hX dX0_restsWithin_27 ?_
  refine ww_iadd hX dX0_restsWithin_28 ?_
  refine ww_aload_n hX 1 rfl dX0_restsWithin_29 rfl ?_
  refine ww_pc (b := 30) rfl ?_
  refine ww_getI hX f_X0_34 (Or.inl rfl) dX0_restsWithin_30 ?_
  refine ww_iload_n hX 0 rfl dX0_restsWithin_33 rfl ?_
  refine ww_imul hX dX0_restsWithin_34 ?_
  refine ww_iload_n hX 0 rfl dX0_restsWithin_35 rfl ?_
  refine ww_iconst (v := 1) hX rfl dX0_restsWithin_36 ?_
  refine ww_iadd hX dX0_restsWithin_37 ?_
  refine ww_imul hX dX0_restsWithin_38 ?_
  refine ww_iconst (v := 2) hX rfl dX0_restsWithin_39 ?_
  refine ww_pc (b := 40) rfl ?_
  refine ww_idiv hX dX0_restsWithin_40 ?_
  refine ww_isub hX dX0_restsWithin_41 ?_
  refine ww_iload_n hX 3 rfl dX0_restsWithin_42 rfl ?_
  refine ww_icmp_gt (tgt := 50) hX dX0_restsWithin_43 (by decide) ?_ ?_
  · refine ww_iconst (v := 0) hX rfl dX0_restsWithin_50 ?_
    exact ww_sub [] rfl (t_X0_restsWithin_51 B fu  0 st)
  · refine ww_iconst (v := 1) hX rfl dX0_restsWithin_46 ?_
    refine ww_goto (tgt := 51) hX dX0_restsWithin_47 (by decide) ?_
    exact ww_sub [] rfl (t_X0_restsWithin_51 B fu  1 st)
def b_X0_restsWithin_22 (fu : Nat) (x0 : Nat) (x1 : Int32) (x2 : Int32)  (st : St) : Option (Int32 × St) :=
  b_X0_restsWithin_23 fu x0 x1 x2 0 st
set_option maxHeartbeats 4000000 in
set_option maxRecDepth 100000 in
theorem t_X0_restsWithin_22 {X : CX} {res : Int32 × St} (B : BI X cX0_restsWithin RX0 4 1 NN (some .boolean) res) (fu : Nat) (x0 : Nat) (x1 : Int32) (x2 : Int32)  (st : St) : WW X res NN 22 [(0, .ref (x_b X + x0)), (1, .int x1), (2, .int x2)] [] st (b_X0_restsWithin_22 fu x0 x1 x2 st) := by
  have hX := B.1
  have hL := B.2.1
  unfold b_X0_restsWithin_22
  refine ww_iconst (v := 0) hX rfl dX0_restsWithin_22 ?_
  exact t_X0_restsWithin_23 B fu x0 x1 x2 0 st
def f_X0_restsWithin (fu : Nat) (th : Nat) (p1 : Int32) (p2 : Int32) (st : St) : Option (Int32 × St) :=
  if p1 ≤ 0 then (
  b_X0_restsWithin_22 fu th p1 p2  st)
  else (
  ck ((kd th).1 = 0) <|
  if (gI st th 4) ≤ 0 then (
  b_X0_restsWithin_22 fu th p1 p2  st)
  else (
  ck ((kd th).1 = 0) <|
  ck (¬ (gI st th 4) = 0) <|
  b_X0_restsWithin_23 fu th p1 p2 ((p1 - 1) / (gI st th 4)) st))
set_option maxHeartbeats 4000000 in
set_option maxRecDepth 100000 in
theorem t_X0_restsWithin {X : CX} {res : Int32 × St} (B : BI X cX0_restsWithin RX0 4 1 NN (some .boolean) res) (fu : Nat) (th : Nat) (p1 : Int32) (p2 : Int32) (st : St) : WW X res NN 0 [(0, .ref (x_b X + th)), (1, .int p1), (2, .int p2)] [] st (f_X0_restsWithin fu th p1 p2 st) := by
  have hX := B.1
  have hL := B.2.1
  unfold f_X0_restsWithin
  refine ww_iload_n hX 1 rfl dX0_restsWithin_0 rfl ?_
  refine ww_if_le (tgt := 22) hX dX0_restsWithin_1 (by decide) ?_ ?_
  · exact t_X0_restsWithin_22 B fu th p1 p2  st
  · refine ww_aload_n hX 0 rfl dX0_restsWithin_4 rfl ?_
    refine ww_getI hX f_X0_34 (Or.inl rfl) dX0_restsWithin_5 ?_
    refine ww_if_le (tgt := 22) hX dX0_restsWithin_8 (by decide) ?_ ?_
    · exact t_X0_restsWithin_22 B fu th p1 p2  st
    · refine ww_iload_n hX 1 rfl dX0_restsWithin_11 rfl ?_
      refine ww_iconst (v := 1) hX rfl dX0_restsWithin_12 ?_
      refine ww_isub hX dX0_restsWithin_13 ?_
      refine ww_aload_n hX 0 rfl dX0_restsWithin_14 rfl ?_
      refine ww_getI hX f_X0_34 (Or.inl rfl) dX0_restsWithin_15 ?_
      refine ww_idiv hX dX0_restsWithin_18 ?_
      refine ww_goto (tgt := 23) hX dX0_restsWithin_19 (by decide) ?_
      exact t_X0_restsWithin_23 B fu th p1 p2 ((p1 - 1) / (gI st th 4)) st
theorem c_X0_restsWithin (G : GX) (l : Launch) (fu : Nat) (th : Nat) (p1 : Int32) (p2 : Int32) (st : St) : MI G NN l yX0_restsWithin cX0_restsWithin 4 (some .boolean) 1 [.ref (G.2.2.1 + th), .int p1, .int p2] st (f_X0_restsWithin fu th p1 p2 st) := mkI (by decide) (Nat.le_of_ble_eq_true rfl) (fun X res hl hG B => by subst hl; subst hG; exact t_X0_restsWithin B fu th p1 p2 st)
/-! StageHouseModel.nearest(JJ)J -/
def b_X12_nearest_41 (fu : Nat)  (y0 : Int64) (st : St) : Option (Int64 × St) :=
  some (y0, st)
set_option maxHeartbeats 4000000 in
set_option maxRecDepth 100000 in
theorem t_X12_nearest_41 {X : CX} {res : Int64 × St} (B : BL X cX12_nearest RX12 8 1 NN (some .long) res) (fu : Nat)  (y0 : Int64) (st : St) : WW X res NN 41 [] [.long y0] st (b_X12_nearest_41 fu y0 st) := by
  have hX := B.1
  have hL := B.2.1
  unfold b_X12_nearest_41
  exact ww_lret B dX12_nearest_41
def f_X12_nearest (fu : Nat) (p0 : Int64) (p2 : Int64) (st : St) : Option (Int64 × St) :=
  bd ((2 * p0) + p2) fun v1 =>
  ck (¬ (2 * p2) = 0) <|
  bd (v1 / (2 * p2)) fun v2 =>
  ck (¬ (2 * p2) = 0) <|
  if 0 ≤ (lg_cmp (v1 - v1 / (2 * p2) * (2 * p2)) 0) then (
  b_X12_nearest_41 fu  v2 st)
  else (
  b_X12_nearest_41 fu  (v2 - 1) st)
set_option maxHeartbeats 4000000 in
set_option maxRecDepth 100000 in
theorem t_X12_nearest {X : CX} {res : Int64 × St} (B : BL X cX12_nearest RX12 8 1 NN (some .long) res) (fu : Nat) (p0 : Int64) (p2 : Int64) (st : St) : WW X res NN 0 [(0, .long p0), (2, .long p2)] [] st (f_X12_nearest fu p0 p2 st) := by
  have hX := B.1
  have hL := B.2.1
  unfold f_X12_nearest
  refine ww_ldc2 (v := 2) hX k_X12_351 dX12_nearest_0 ?_
  refine ww_lload_n hX 0 rfl dX12_nearest_3 rfl ?_
  refine ww_lmul hX dX12_nearest_4 ?_
  refine ww_lload_n hX 1 rfl dX12_nearest_5 rfl ?_
  refine ww_ladd hX dX12_nearest_6 ?_
  refine ww_bdl (fun v1 => ?_)
  refine ww_lstore (lv' := [(4, .long v1), (0, .long p0), (2, .long p2)]) hX hL dX12_nearest_7 (by decide) rfl ?_
  refine ww_lload hX 0 rfl dX12_nearest_9 ?_
  refine ww_pc (b := 11) rfl ?_
  refine ww_ldc2 (v := 2) hX k_X12_351 dX12_nearest_11 ?_
  refine ww_lload_n hX 2 rfl dX12_nearest_14 rfl ?_
  refine ww_lmul hX dX12_nearest_15 ?_
  refine ww_ldiv hX dX12_nearest_16 ?_
  refine ww_bdl (fun v2 => ?_)
  refine ww_lstore (lv' := [(6, .long v2), (4, .long v1), (0, .long p0), (2, .long p2)]) hX hL dX12_nearest_17 (by decide) rfl ?_
  refine ww_lload hX 1 rfl dX12_nearest_19 ?_
  refine ww_ldc2 (v := 2) hX k_X12_351 dX12_nearest_21 ?_
  refine ww_lload_n hX 3 rfl dX12_nearest_24 rfl ?_
  refine ww_pc (b := 25) rfl ?_
  refine ww_lmul hX dX12_nearest_25 ?_
  refine ww_lrem hX dX12_nearest_26 ?_
  refine ww_lconst (v := 0) hX rfl dX12_nearest_27 ?_
  refine ww_lcmp hX dX12_nearest_28 ?_
  refine ww_if_ge (tgt := 39) hX dX12_nearest_29 (by decide) ?_ ?_
  · refine ww_lload hX 0 rfl dX12_nearest_39 ?_
    exact ww_sub [] rfl (t_X12_nearest_41 B fu  v2 st)
  · refine ww_lload hX 0 rfl dX12_nearest_32 ?_
    refine ww_lconst (v := 1) hX rfl dX12_nearest_34 ?_
    refine ww_lsub hX dX12_nearest_35 ?_
    refine ww_goto (tgt := 41) hX dX12_nearest_36 (by decide) ?_
    exact ww_sub [] rfl (t_X12_nearest_41 B fu  (v2 - 1) st)
theorem c_X12_nearest (G : GX) (l : Launch) (fu : Nat) (p0 : Int64) (p2 : Int64) (st : St) : ML G NN l yX12_nearest cX12_nearest 8 (some .long) 1 [.long p0, .long p2] st (f_X12_nearest fu p0 p2 st) := mkL (by decide) (Nat.le_of_ble_eq_true rfl) (fun X res hl hG B => by subst hl; subst hG; exact t_X12_nearest B fu p0 p2 st)
