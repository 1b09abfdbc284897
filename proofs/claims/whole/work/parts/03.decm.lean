theorem dX11_init_0 : decode cX11_init 0 = .ok (.aload_n 0, 1) := by decide +kernel
theorem dX11_init_1 : decode cX11_init 1 = .ok (.invokespecial 1, 3) := by decide +kernel
theorem dX11_init_4 : decode cX11_init 4 = .ok (.aload_n 0, 1) := by decide +kernel
theorem dX11_init_5 : decode cX11_init 5 = .ok (.sipush 234, 3) := by decide +kernel
theorem dX11_init_8 : decode cX11_init 8 = .ok (.newarray .int, 2) := by decide +kernel
theorem dX11_init_10 : decode cX11_init 10 = .ok (.putfield 7, 3) := by decide +kernel
theorem dX11_init_13 : decode cX11_init 13 = .ok (.aload_n 0, 1) := by decide +kernel
theorem dX11_init_14 : decode cX11_init 14 = .ok (.sipush 234, 3) := by decide +kernel
theorem dX11_init_17 : decode cX11_init 17 = .ok (.newarray .int, 2) := by decide +kernel
theorem dX11_init_19 : decode cX11_init 19 = .ok (.putfield 13, 3) := by decide +kernel
theorem dX11_init_22 : decode cX11_init 22 = .ok (.aload_n 0, 1) := by decide +kernel
theorem dX11_init_23 : decode cX11_init 23 = .ok (.sipush 400, 3) := by decide +kernel
theorem dX11_init_26 : decode cX11_init 26 = .ok (.newarray .int, 2) := by decide +kernel
theorem dX11_init_28 : decode cX11_init 28 = .ok (.putfield 16, 3) := by decide +kernel
theorem dX11_init_31 : decode cX11_init 31 = .ok (.aload_n 0, 1) := by decide +kernel
theorem dX11_init_32 : decode cX11_init 32 = .ok (.sipush 800, 3) := by decide +kernel
theorem dX11_init_35 : decode cX11_init 35 = .ok (.newarray .int, 2) := by decide +kernel
theorem dX11_init_37 : decode cX11_init 37 = .ok (.putfield 19, 3) := by decide +kernel
theorem dX11_init_40 : decode cX11_init 40 = .ok (.aload_n 0, 1) := by decide +kernel
theorem dX11_init_41 : decode cX11_init 41 = .ok (.iconst 2, 1) := by decide +kernel
theorem dX11_init_42 : decode cX11_init 42 = .ok (.newarray .int, 2) := by decide +kernel
theorem dX11_init_44 : decode cX11_init 44 = .ok (.putfield 22, 3) := by decide +kernel
theorem dX11_init_47 : decode cX11_init 47 = .ok (.aload_n 0, 1) := by decide +kernel
theorem dX11_init_48 : decode cX11_init 48 = .ok (.sipush 400, 3) := by decide +kernel
theorem dX11_init_51 : decode cX11_init 51 = .ok (.newarray .int, 2) := by decide +kernel
theorem dX11_init_53 : decode cX11_init 53 = .ok (.putfield 25, 3) := by decide +kernel
theorem dX11_init_56 : decode cX11_init 56 = .ok (.aload_n 0, 1) := by decide +kernel
theorem dX11_init_57 : decode cX11_init 57 = .ok (.iconst 3, 1) := by decide +kernel
theorem dX11_init_58 : decode cX11_init 58 = .ok (.newarray .int, 2) := by decide +kernel
theorem dX11_init_60 : decode cX11_init 60 = .ok (.putfield 28, 3) := by decide +kernel
theorem dX11_init_63 : decode cX11_init 63 = .ok (.aload_n 0, 1) := by decide +kernel
theorem dX11_init_64 : decode cX11_init 64 = .ok (.sipush 400, 3) := by decide +kernel
theorem dX11_init_67 : decode cX11_init 67 = .ok (.newarray .int, 2) := by decide +kernel
theorem dX11_init_69 : decode cX11_init 69 = .ok (.putfield 31, 3) := by decide +kernel
theorem dX11_init_72 : decode cX11_init 72 = .ok (.aload_n 0, 1) := by decide +kernel
theorem dX11_init_73 : decode cX11_init 73 = .ok (.iconst 4, 1) := by decide +kernel
theorem dX11_init_74 : decode cX11_init 74 = .ok (.newarray .int, 2) := by decide +kernel
theorem dX11_init_76 : decode cX11_init 76 = .ok (.putfield 34, 3) := by decide +kernel
theorem dX11_init_79 : decode cX11_init 79 = .ok (.aload_n 0, 1) := by decide +kernel
theorem dX11_init_80 : decode cX11_init 80 = .ok (.iconst 4, 1) := by decide +kernel
theorem dX11_init_81 : decode cX11_init 81 = .ok (.newarray .int, 2) := by decide +kernel
theorem dX11_init_83 : decode cX11_init 83 = .ok (.putfield 37, 3) := by decide +kernel
theorem dX11_init_86 : decode cX11_init 86 = .ok (.aload_n 0, 1) := by decide +kernel
theorem dX11_init_87 : decode cX11_init 87 = .ok (.sipush 160, 3) := by decide +kernel
theorem dX11_init_90 : decode cX11_init 90 = .ok (.newarray .int, 2) := by decide +kernel
theorem dX11_init_92 : decode cX11_init 92 = .ok (.putfield 40, 3) := by decide +kernel
theorem dX11_init_95 : decode cX11_init 95 = .ok (.iconst 0, 1) := by decide +kernel
theorem dX11_init_96 : decode cX11_init 96 = .ok (.istore_n 1, 1) := by decide +kernel
theorem dX11_init_97 : decode cX11_init 97 = .ok (.iload_n 1, 1) := by decide +kernel
theorem dX11_init_98 : decode cX11_init 98 = .ok (.iconst 4, 1) := by decide +kernel
theorem dX11_init_99 : decode cX11_init 99 = .ok (.if_icmp .ge 17, 3) := by decide +kernel
theorem dX11_init_102 : decode cX11_init 102 = .ok (.aload_n 0, 1) := by decide +kernel
theorem dX11_init_103 : decode cX11_init 103 = .ok (.getfield 34, 3) := by decide +kernel
theorem dX11_init_106 : decode cX11_init 106 = .ok (.iload_n 1, 1) := by decide +kernel
theorem dX11_init_107 : decode cX11_init 107 = .ok (.bipush (-4), 2) := by decide +kernel
theorem dX11_init_109 : decode cX11_init 109 = .ok (.iastore, 1) := by decide +kernel
theorem dX11_init_110 : decode cX11_init 110 = .ok (.iinc 1 1, 3) := by decide +kernel
theorem dX11_init_113 : decode cX11_init 113 = .ok (.goto (-16), 3) := by decide +kernel
theorem dX11_init_116 : decode cX11_init 116 = .ok (.aload_n 0, 1) := by decide +kernel
theorem dX11_init_117 : decode cX11_init 117 = .ok (.getfield 22, 3) := by decide +kernel
theorem dX11_init_120 : decode cX11_init 120 = .ok (.iconst 0, 1) := by decide +kernel
theorem dX11_init_121 : decode cX11_init 121 = .ok (.bipush (-4), 2) := by decide +kernel
theorem dX11_init_123 : decode cX11_init 123 = .ok (.iastore, 1) := by decide +kernel
theorem dX11_init_124 : decode cX11_init 124 = .ok (.aload_n 0, 1) := by decide +kernel
theorem dX11_init_125 : decode cX11_init 125 = .ok (.getfield 22, 3) := by decide +kernel
theorem dX11_init_128 : decode cX11_init 128 = .ok (.iconst 1, 1) := by decide +kernel
theorem dX11_init_129 : decode cX11_init 129 = .ok (.bipush (-4), 2) := by decide +kernel
theorem dX11_init_131 : decode cX11_init 131 = .ok (.iastore, 1) := by decide +kernel
theorem dX11_init_132 : decode cX11_init 132 = .ok (.aload_n 0, 1) := by decide +kernel
theorem dX11_init_133 : decode cX11_init 133 = .ok (.invokevirtual 43, 3) := by decide +kernel
theorem dX11_init_136 : decode cX11_init 136 = .ok (.aload_n 0, 1) := by decide +kernel
theorem dX11_init_137 : decode cX11_init 137 = .ok (.invokevirtual 46, 3) := by decide +kernel
theorem dX11_init_140 : decode cX11_init 140 = .ok (.return_, 1) := by decide +kernel
theorem dX11_in_0 : decode cX11_in 0 = .ok (.lload_n 0, 1) := by decide +kernel
theorem dX11_in_1 : decode cX11_in 1 = .ok (.lload_n 2, 1) := by decide +kernel
theorem dX11_in_2 : decode cX11_in 2 = .ok (.lcmp, 1) := by decide +kernel
theorem dX11_in_3 : decode cX11_in 3 = .ok (.ifCond .lt 14, 3) := by decide +kernel
theorem dX11_in_6 : decode cX11_in 6 = .ok (.lload_n 0, 1) := by decide +kernel
theorem dX11_in_7 : decode cX11_in 7 = .ok (.lload 4, 2) := by decide +kernel
theorem dX11_in_9 : decode cX11_in 9 = .ok (.lcmp, 1) := by decide +kernel
theorem dX11_in_10 : decode cX11_in 10 = .ok (.ifCond .gt 7, 3) := by decide +kernel
theorem dX11_in_13 : decode cX11_in 13 = .ok (.iconst 1, 1) := by decide +kernel
theorem dX11_in_14 : decode cX11_in 14 = .ok (.goto 4, 3) := by decide +kernel
theorem dX11_in_17 : decode cX11_in 17 = .ok (.iconst 0, 1) := by decide +kernel
theorem dX11_in_18 : decode cX11_in 18 = .ok (.ireturn, 1) := by decide +kernel
theorem dX11_flag_0 : decode cX11_flag 0 = .ok (.iload_n 0, 1) := by decide +kernel
theorem dX11_flag_1 : decode cX11_flag 1 = .ok (.ifCond .eq 7, 3) := by decide +kernel
theorem dX11_flag_4 : decode cX11_flag 4 = .ok (.iconst 1, 1) := by decide +kernel
theorem dX11_flag_5 : decode cX11_flag 5 = .ok (.goto 4, 3) := by decide +kernel
theorem dX11_flag_8 : decode cX11_flag 8 = .ok (.iconst 0, 1) := by decide +kernel
theorem dX11_flag_9 : decode cX11_flag 9 = .ok (.ireturn, 1) := by decide +kernel
theorem dX11_less_0 : decode cX11_less 0 = .ok (.iload_n 0, 1) := by decide +kernel
theorem dX11_less_1 : decode cX11_less 1 = .ok (.iload_n 1, 1) := by decide +kernel
theorem dX11_less_2 : decode cX11_less 2 = .ok (.if_icmp .ge 7, 3) := by decide +kernel
theorem dX11_less_5 : decode cX11_less 5 = .ok (.iload_n 0, 1) := by decide +kernel
theorem dX11_less_6 : decode cX11_less 6 = .ok (.goto 4, 3) := by decide +kernel
theorem dX11_less_9 : decode cX11_less 9 = .ok (.iload_n 1, 1) := by decide +kernel
theorem dX11_less_10 : decode cX11_less 10 = .ok (.ireturn, 1) := by decide +kernel
theorem dX11_firstDraft_0 : decode cX11_firstDraft 0 = .ok (.iconst 0, 1) := by decide +kernel
theorem dX11_firstDraft_1 : decode cX11_firstDraft 1 = .ok (.istore_n 1, 1) := by decide +kernel
theorem dX11_firstDraft_2 : decode cX11_firstDraft 2 = .ok (.iload_n 1, 1) := by decide +kernel
theorem dX11_firstDraft_3 : decode cX11_firstDraft 3 = .ok (.sipush 234, 3) := by decide +kernel
theorem dX11_firstDraft_6 : decode cX11_firstDraft 6 = .ok (.if_icmp .ge 16, 3) := by decide +kernel
theorem dX11_firstDraft_9 : decode cX11_firstDraft 9 = .ok (.aload_n 0, 1) := by decide +kernel
theorem dX11_firstDraft_10 : decode cX11_firstDraft 10 = .ok (.getfield 13, 3) := by decide +kernel
theorem dX11_firstDraft_13 : decode cX11_firstDraft 13 = .ok (.iload_n 1, 1) := by decide +kernel
theorem dX11_firstDraft_14 : decode cX11_firstDraft 14 = .ok (.iconst 0, 1) := by decide +kernel
theorem dX11_firstDraft_15 : decode cX11_firstDraft 15 = .ok (.iastore, 1) := by decide +kernel
theorem dX11_firstDraft_16 : decode cX11_firstDraft 16 = .ok (.iinc 1 1, 3) := by decide +kernel
theorem dX11_firstDraft_19 : decode cX11_firstDraft 19 = .ok (.goto (-17), 3) := by decide +kernel
theorem dX11_firstDraft_22 : decode cX11_firstDraft 22 = .ok (.aload_n 0, 1) := by decide +kernel
theorem dX11_firstDraft_23 : decode cX11_firstDraft 23 = .ok (.getfield 13, 3) := by decide +kernel
theorem dX11_firstDraft_26 : decode cX11_firstDraft 26 = .ok (.sipush 232, 3) := by decide +kernel
theorem dX11_firstDraft_29 : decode cX11_firstDraft 29 = .ok (.bipush 100, 2) := by decide +kernel
theorem dX11_firstDraft_31 : decode cX11_firstDraft 31 = .ok (.iastore, 1) := by decide +kernel
theorem dX11_firstDraft_32 : decode cX11_firstDraft 32 = .ok (.aload_n 0, 1) := by decide +kernel
theorem dX11_firstDraft_33 : decode cX11_firstDraft 33 = .ok (.iconst 0, 1) := by decide +kernel
theorem dX11_firstDraft_34 : decode cX11_firstDraft 34 = .ok (.putfield 49, 3) := by decide +kernel
theorem dX11_firstDraft_37 : decode cX11_firstDraft 37 = .ok (.return_, 1) := by decide +kernel
theorem dX11_keepDraft_0 : decode cX11_keepDraft 0 = .ok (.iconst 0, 1) := by decide +kernel
theorem dX11_keepDraft_1 : decode cX11_keepDraft 1 = .ok (.istore_n 1, 1) := by decide +kernel
theorem dX11_keepDraft_2 : decode cX11_keepDraft 2 = .ok (.iload_n 1, 1) := by decide +kernel
theorem dX11_keepDraft_3 : decode cX11_keepDraft 3 = .ok (.sipush 234, 3) := by decide +kernel
theorem dX11_keepDraft_6 : decode cX11_keepDraft 6 = .ok (.if_icmp .ge 21, 3) := by decide +kernel
theorem dX11_keepDraft_9 : decode cX11_keepDraft 9 = .ok (.aload_n 0, 1) := by decide +kernel
theorem dX11_keepDraft_10 : decode cX11_keepDraft 10 = .ok (.getfield 7, 3) := by decide +kernel
theorem dX11_keepDraft_13 : decode cX11_keepDraft 13 = .ok (.iload_n 1, 1) := by decide +kernel
theorem dX11_keepDraft_14 : decode cX11_keepDraft 14 = .ok (.aload_n 0, 1) := by decide +kernel
theorem dX11_keepDraft_15 : decode cX11_keepDraft 15 = .ok (.getfield 13, 3) := by decide +kernel
theorem dX11_keepDraft_18 : decode cX11_keepDraft 18 = .ok (.iload_n 1, 1) := by decide +kernel
theorem dX11_keepDraft_19 : decode cX11_keepDraft 19 = .ok (.iaload, 1) := by decide +kernel
theorem dX11_keepDraft_20 : decode cX11_keepDraft 20 = .ok (.iastore, 1) := by decide +kernel
theorem dX11_keepDraft_21 : decode cX11_keepDraft 21 = .ok (.iinc 1 1, 3) := by decide +kernel
theorem dX11_keepDraft_24 : decode cX11_keepDraft 24 = .ok (.goto (-22), 3) := by decide +kernel
theorem dX11_keepDraft_27 : decode cX11_keepDraft 27 = .ok (.return_, 1) := by decide +kernel
theorem dX11_feed_0 : decode cX11_feed 0 = .ok (.aload_n 0, 1) := by decide +kernel
theorem dX11_feed_1 : decode cX11_feed 1 = .ok (.getfield 53, 3) := by decide +kernel
theorem dX11_feed_4 : decode cX11_feed 4 = .ok (.bipush 8, 2) := by decide +kernel
theorem dX11_feed_6 : decode cX11_feed 6 = .ok (.iadd, 1) := by decide +kernel
theorem dX11_feed_7 : decode cX11_feed 7 = .ok (.sipush 400, 3) := by decide +kernel
theorem dX11_feed_10 : decode cX11_feed 10 = .ok (.if_icmp .le 6, 3) := by decide +kernel
theorem dX11_feed_13 : decode cX11_feed 13 = .ok (.bipush (-3), 2) := by decide +kernel
theorem dX11_feed_15 : decode cX11_feed 15 = .ok (.ireturn, 1) := by decide +kernel
theorem dX11_feed_16 : decode cX11_feed 16 = .ok (.bipush 56, 2) := by decide +kernel
theorem dX11_feed_18 : decode cX11_feed 18 = .ok (.istore_n 3, 1) := by decide +kernel
theorem dX11_feed_19 : decode cX11_feed 19 = .ok (.iload_n 3, 1) := by decide +kernel
theorem dX11_feed_20 : decode cX11_feed 20 = .ok (.ifCond .lt 36, 3) := by decide +kernel
theorem dX11_feed_23 : decode cX11_feed 23 = .ok (.aload_n 0, 1) := by decide +kernel
theorem dX11_feed_24 : decode cX11_feed 24 = .ok (.getfield 25, 3) := by decide +kernel
theorem dX11_feed_27 : decode cX11_feed 27 = .ok (.aload_n 0, 1) := by decide +kernel
theorem dX11_feed_28 : decode cX11_feed 28 = .ok (.getfield 53, 3) := by decide +kernel
theorem dX11_feed_31 : decode cX11_feed 31 = .ok (.lload_n 1, 1) := by decide +kernel
theorem dX11_feed_32 : decode cX11_feed 32 = .ok (.iload_n 3, 1) := by decide +kernel
theorem dX11_feed_33 : decode cX11_feed 33 = .ok (.lshr, 1) := by decide +kernel
theorem dX11_feed_34 : decode cX11_feed 34 = .ok (.ldc2_w 56, 3) := by decide +kernel
theorem dX11_feed_37 : decode cX11_feed 37 = .ok (.land, 1) := by decide +kernel
theorem dX11_feed_38 : decode cX11_feed 38 = .ok (.l2i, 1) := by decide +kernel
theorem dX11_feed_39 : decode cX11_feed 39 = .ok (.iastore, 1) := by decide +kernel
theorem dX11_feed_40 : decode cX11_feed 40 = .ok (.aload_n 0, 1) := by decide +kernel
theorem dX11_feed_41 : decode cX11_feed 41 = .ok (.dup, 1) := by decide +kernel
theorem dX11_feed_42 : decode cX11_feed 42 = .ok (.getfield 53, 3) := by decide +kernel
theorem dX11_feed_45 : decode cX11_feed 45 = .ok (.iconst 1, 1) := by decide +kernel
theorem dX11_feed_46 : decode cX11_feed 46 = .ok (.iadd, 1) := by decide +kernel
theorem dX11_feed_47 : decode cX11_feed 47 = .ok (.putfield 53, 3) := by decide +kernel
theorem dX11_feed_50 : decode cX11_feed 50 = .ok (.iinc 3 (-8), 3) := by decide +kernel
theorem dX11_feed_53 : decode cX11_feed 53 = .ok (.goto (-34), 3) := by decide +kernel
theorem dX11_feed_56 : decode cX11_feed 56 = .ok (.aload_n 0, 1) := by decide +kernel
theorem dX11_feed_57 : decode cX11_feed 57 = .ok (.getfield 53, 3) := by decide +kernel
theorem dX11_feed_60 : decode cX11_feed 60 = .ok (.ireturn, 1) := by decide +kernel
theorem dX11_end_0 : decode cX11_end 0 = .ok (.iload_n 1, 1) := by decide +kernel
theorem dX11_end_1 : decode cX11_end 1 = .ok (.i2l, 1) := by decide +kernel
theorem dX11_end_2 : decode cX11_end 2 = .ok (.lconst 0, 1) := by decide +kernel
theorem dX11_end_3 : decode cX11_end 3 = .ok (.aload_n 0, 1) := by decide +kernel
theorem dX11_end_4 : decode cX11_end 4 = .ok (.getfield 53, 3) := by decide +kernel
theorem dX11_end_7 : decode cX11_end 7 = .ok (.i2l, 1) := by decide +kernel
theorem dX11_end_8 : decode cX11_end 8 = .ok (.invokestatic 58, 3) := by decide +kernel
theorem dX11_end_11 : decode cX11_end 11 = .ok (.ifCond .ne 5, 3) := by decide +kernel
theorem dX11_end_14 : decode cX11_end 14 = .ok (.iconst (-1), 1) := by decide +kernel
theorem dX11_end_15 : decode cX11_end 15 = .ok (.ireturn, 1) := by decide +kernel
theorem dX11_end_16 : decode cX11_end 16 = .ok (.aload_n 0, 1) := by decide +kernel
theorem dX11_end_17 : decode cX11_end 17 = .ok (.getfield 53, 3) := by decide +kernel
theorem dX11_end_20 : decode cX11_end 20 = .ok (.istore_n 2, 1) := by decide +kernel
theorem dX11_end_21 : decode cX11_end 21 = .ok (.aload_n 0, 1) := by decide +kernel
theorem dX11_end_22 : decode cX11_end 22 = .ok (.iload_n 1, 1) := by decide +kernel
theorem dX11_end_23 : decode cX11_end 23 = .ok (.putfield 53, 3) := by decide +kernel
theorem dX11_end_26 : decode cX11_end 26 = .ok (.iload_n 2, 1) := by decide +kernel
theorem dX11_end_27 : decode cX11_end 27 = .ok (.ireturn, 1) := by decide +kernel
theorem dX11_needs_0 : decode cX11_needs 0 = .ok (.iload_n 1, 1) := by decide +kernel
theorem dX11_needs_1 : decode cX11_needs 1 = .ok (.ifCond .ne 23, 3) := by decide +kernel
theorem dX11_needs_4 : decode cX11_needs 4 = .ok (.aload_n 0, 1) := by decide +kernel
theorem dX11_needs_5 : decode cX11_needs 5 = .ok (.getfield 62, 3) := by decide +kernel
theorem dX11_needs_8 : decode cX11_needs 8 = .ok (.ifCond .ne 16, 3) := by decide +kernel
theorem dX11_needs_11 : decode cX11_needs 11 = .ok (.aload_n 0, 1) := by decide +kernel
theorem dX11_needs_12 : decode cX11_needs 12 = .ok (.iload_n 2, 1) := by decide +kernel
theorem dX11_needs_13 : decode cX11_needs 13 = .ok (.putfield 62, 3) := by decide +kernel
theorem dX11_needs_16 : decode cX11_needs 16 = .ok (.aload_n 0, 1) := by decide +kernel
theorem dX11_needs_17 : decode cX11_needs 17 = .ok (.aload_n 0, 1) := by decide +kernel
theorem dX11_needs_18 : decode cX11_needs 18 = .ok (.getfield 65, 3) := by decide +kernel
theorem dX11_needs_21 : decode cX11_needs 21 = .ok (.putfield 68, 3) := by decide +kernel
theorem dX11_needs_24 : decode cX11_needs 24 = .ok (.return_, 1) := by decide +kernel
theorem dX11_look_0 : decode cX11_look 0 = .ok (.iload_n 1, 1) := by decide +kernel
theorem dX11_look_1 : decode cX11_look 1 = .ok (.aload_n 0, 1) := by decide +kernel
theorem dX11_look_2 : decode cX11_look 2 = .ok (.getfield 53, 3) := by decide +kernel
theorem dX11_look_5 : decode cX11_look 5 = .ok (.if_icmp .ge 12, 3) := by decide +kernel
theorem dX11_look_8 : decode cX11_look 8 = .ok (.aload_n 0, 1) := by decide +kernel
theorem dX11_look_9 : decode cX11_look 9 = .ok (.getfield 25, 3) := by decide +kernel
theorem dX11_look_12 : decode cX11_look 12 = .ok (.iload_n 1, 1) := by decide +kernel
theorem dX11_look_13 : decode cX11_look 13 = .ok (.iaload, 1) := by decide +kernel
theorem dX11_look_14 : decode cX11_look 14 = .ok (.goto 4, 3) := by decide +kernel
theorem dX11_look_17 : decode cX11_look 17 = .ok (.iconst (-1), 1) := by decide +kernel
theorem dX11_look_18 : decode cX11_look 18 = .ok (.ireturn, 1) := by decide +kernel
theorem dX11_is_0 : decode cX11_is 0 = .ok (.aload_n 0, 1) := by decide +kernel
theorem dX11_is_1 : decode cX11_is 1 = .ok (.getfield 71, 3) := by decide +kernel
theorem dX11_is_4 : decode cX11_is 4 = .ok (.aload_n 0, 1) := by decide +kernel
theorem dX11_is_5 : decode cX11_is 5 = .ok (.getfield 65, 3) := by decide +kernel
theorem dX11_is_8 : decode cX11_is 8 = .ok (.isub, 1) := by decide +kernel
theorem dX11_is_9 : decode cX11_is 9 = .ok (.iload_n 1, 1) := by decide +kernel
theorem dX11_is_10 : decode cX11_is 10 = .ok (.if_icmp .ne 73, 3) := by decide +kernel
theorem dX11_is_13 : decode cX11_is 13 = .ok (.aload_n 0, 1) := by decide +kernel
theorem dX11_is_14 : decode cX11_is 14 = .ok (.aload_n 0, 1) := by decide +kernel
theorem dX11_is_15 : decode cX11_is 15 = .ok (.getfield 65, 3) := by decide +kernel
theorem dX11_is_18 : decode cX11_is 18 = .ok (.invokevirtual 74, 3) := by decide +kernel
theorem dX11_is_21 : decode cX11_is 21 = .ok (.iload_n 2, 1) := by decide +kernel
theorem dX11_is_22 : decode cX11_is 22 = .ok (.if_icmp .ne 61, 3) := by decide +kernel
theorem dX11_is_25 : decode cX11_is 25 = .ok (.aload_n 0, 1) := by decide +kernel
theorem dX11_is_26 : decode cX11_is 26 = .ok (.aload_n 0, 1) := by decide +kernel
theorem dX11_is_27 : decode cX11_is 27 = .ok (.getfield 65, 3) := by decide +kernel
theorem dX11_is_30 : decode cX11_is 30 = .ok (.iconst 1, 1) := by decide +kernel
theorem dX11_is_31 : decode cX11_is 31 = .ok (.iadd, 1) := by decide +kernel
theorem dX11_is_32 : decode cX11_is 32 = .ok (.invokevirtual 74, 3) := by decide +kernel
theorem dX11_is_35 : decode cX11_is 35 = .ok (.iload_n 3, 1) := by decide +kernel
theorem dX11_is_36 : decode cX11_is 36 = .ok (.if_icmp .ne 47, 3) := by decide +kernel
theorem dX11_is_39 : decode cX11_is 39 = .ok (.iload_n 1, 1) := by decide +kernel
theorem dX11_is_40 : decode cX11_is 40 = .ok (.iconst 3, 1) := by decide +kernel
theorem dX11_is_41 : decode cX11_is 41 = .ok (.if_icmp .lt 18, 3) := by decide +kernel
theorem dX11_is_44 : decode cX11_is 44 = .ok (.aload_n 0, 1) := by decide +kernel
theorem dX11_is_45 : decode cX11_is 45 = .ok (.aload_n 0, 1) := by decide +kernel
theorem dX11_is_46 : decode cX11_is 46 = .ok (.getfield 65, 3) := by decide +kernel
theorem dX11_is_49 : decode cX11_is 49 = .ok (.iconst 2, 1) := by decide +kernel
theorem dX11_is_50 : decode cX11_is 50 = .ok (.iadd, 1) := by decide +kernel
theorem dX11_is_51 : decode cX11_is 51 = .ok (.invokevirtual 74, 3) := by decide +kernel
theorem dX11_is_54 : decode cX11_is 54 = .ok (.iload 4, 2) := by decide +kernel
theorem dX11_is_56 : decode cX11_is 56 = .ok (.if_icmp .ne 27, 3) := by decide +kernel
theorem dX11_is_59 : decode cX11_is 59 = .ok (.iload_n 1, 1) := by decide +kernel
theorem dX11_is_60 : decode cX11_is 60 = .ok (.iconst 4, 1) := by decide +kernel
theorem dX11_is_61 : decode cX11_is 61 = .ok (.if_icmp .lt 18, 3) := by decide +kernel
theorem dX11_is_64 : decode cX11_is 64 = .ok (.aload_n 0, 1) := by decide +kernel
theorem dX11_is_65 : decode cX11_is 65 = .ok (.aload_n 0, 1) := by decide +kernel
theorem dX11_is_66 : decode cX11_is 66 = .ok (.getfield 65, 3) := by decide +kernel
theorem dX11_is_69 : decode cX11_is 69 = .ok (.iconst 3, 1) := by decide +kernel
theorem dX11_is_70 : decode cX11_is 70 = .ok (.iadd, 1) := by decide +kernel
theorem dX11_is_71 : decode cX11_is 71 = .ok (.invokevirtual 74, 3) := by decide +kernel
theorem dX11_is_74 : decode cX11_is 74 = .ok (.iload 5, 2) := by decide +kernel
theorem dX11_is_76 : decode cX11_is 76 = .ok (.if_icmp .ne 7, 3) := by decide +kernel
theorem dX11_is_79 : decode cX11_is 79 = .ok (.iconst 1, 1) := by decide +kernel
theorem dX11_is_80 : decode cX11_is 80 = .ok (.goto 4, 3) := by decide +kernel
theorem dX11_is_83 : decode cX11_is 83 = .ok (.iconst 0, 1) := by decide +kernel
theorem dX11_is_84 : decode cX11_is 84 = .ok (.ireturn, 1) := by decide +kernel
theorem dX11_termNow_0 : decode cX11_termNow 0 = .ok (.aload_n 0, 1) := by decide +kernel
theorem dX11_termNow_1 : decode cX11_termNow 1 = .ok (.iconst 4, 1) := by decide +kernel
theorem dX11_termNow_2 : decode cX11_termNow 2 = .ok (.bipush 104, 2) := by decide +kernel
theorem dX11_termNow_4 : decode cX11_termNow 4 = .ok (.bipush 105, 2) := by decide +kernel
theorem dX11_termNow_6 : decode cX11_termNow 6 = .ok (.bipush 103, 2) := by decide +kernel
theorem dX11_termNow_8 : decode cX11_termNow 8 = .ok (.bipush 104, 2) := by decide +kernel
theorem dX11_termNow_10 : decode cX11_termNow 10 = .ok (.invokevirtual 78, 3) := by decide +kernel
theorem dX11_termNow_13 : decode cX11_termNow 13 = .ok (.ifCond .eq 5, 3) := by decide +kernel
theorem dX11_termNow_16 : decode cX11_termNow 16 = .ok (.iconst 0, 1) := by decide +kernel
theorem dX11_termNow_17 : decode cX11_termNow 17 = .ok (.ireturn, 1) := by decide +kernel
theorem dX11_termNow_18 : decode cX11_termNow 18 = .ok (.aload_n 0, 1) := by decide +kernel
theorem dX11_termNow_19 : decode cX11_termNow 19 = .ok (.iconst 3, 1) := by decide +kernel
theorem dX11_termNow_20 : decode cX11_termNow 20 = .ok (.bipush 108, 2) := by decide +kernel
theorem dX11_termNow_22 : decode cX11_termNow 22 = .ok (.bipush 111, 2) := by decide +kernel
theorem dX11_termNow_24 : decode cX11_termNow 24 = .ok (.bipush 119, 2) := by decide +kernel
theorem dX11_termNow_26 : decode cX11_termNow 26 = .ok (.iconst 0, 1) := by decide +kernel
theorem dX11_termNow_27 : decode cX11_termNow 27 = .ok (.invokevirtual 78, 3) := by decide +kernel
theorem dX11_termNow_30 : decode cX11_termNow 30 = .ok (.ifCond .eq 5, 3) := by decide +kernel
theorem dX11_termNow_33 : decode cX11_termNow 33 = .ok (.iconst 1, 1) := by decide +kernel
theorem dX11_termNow_34 : decode cX11_termNow 34 = .ok (.ireturn, 1) := by decide +kernel
theorem dX11_termNow_35 : decode cX11_termNow 35 = .ok (.aload_n 0, 1) := by decide +kernel
theorem dX11_termNow_36 : decode cX11_termNow 36 = .ok (.iconst 4, 1) := by decide +kernel
theorem dX11_termNow_37 : decode cX11_termNow 37 = .ok (.bipush 114, 2) := by decide +kernel
theorem dX11_termNow_39 : decode cX11_termNow 39 = .ok (.bipush 105, 2) := by decide +kernel
theorem dX11_termNow_41 : decode cX11_termNow 41 = .ok (.bipush 115, 2) := by decide +kernel
theorem dX11_termNow_43 : decode cX11_termNow 43 = .ok (.bipush 101, 2) := by decide +kernel
theorem dX11_termNow_45 : decode cX11_termNow 45 = .ok (.invokevirtual 78, 3) := by decide +kernel
theorem dX11_termNow_48 : decode cX11_termNow 48 = .ok (.ifCond .eq 5, 3) := by decide +kernel
theorem dX11_termNow_51 : decode cX11_termNow 51 = .ok (.iconst 2, 1) := by decide +kernel
theorem dX11_termNow_52 : decode cX11_termNow 52 = .ok (.ireturn, 1) := by decide +kernel
theorem dX11_termNow_53 : decode cX11_termNow 53 = .ok (.aload_n 0, 1) := by decide +kernel
theorem dX11_termNow_54 : decode cX11_termNow 54 = .ok (.iconst 4, 1) := by decide +kernel
theorem dX11_termNow_55 : decode cX11_termNow 55 = .ok (.bipush 102, 2) := by decide +kernel
theorem dX11_termNow_57 : decode cX11_termNow 57 = .ok (.bipush 97, 2) := by decide +kernel
theorem dX11_termNow_59 : decode cX11_termNow 59 = .ok (.bipush 108, 2) := by decide +kernel
theorem dX11_termNow_61 : decode cX11_termNow 61 = .ok (.bipush 108, 2) := by decide +kernel
theorem dX11_termNow_63 : decode cX11_termNow 63 = .ok (.invokevirtual 78, 3) := by decide +kernel
theorem dX11_termNow_66 : decode cX11_termNow 66 = .ok (.ifCond .eq 5, 3) := by decide +kernel
theorem dX11_termNow_69 : decode cX11_termNow 69 = .ok (.iconst 3, 1) := by decide +kernel
theorem dX11_termNow_70 : decode cX11_termNow 70 = .ok (.ireturn, 1) := by decide +kernel
theorem dX11_termNow_71 : decode cX11_termNow 71 = .ok (.aload_n 0, 1) := by decide +kernel
theorem dX11_termNow_72 : decode cX11_termNow 72 = .ok (.iconst 2, 1) := by decide +kernel
theorem dX11_termNow_73 : decode cX11_termNow 73 = .ok (.bipush 105, 2) := by decide +kernel
theorem dX11_termNow_75 : decode cX11_termNow 75 = .ok (.bipush 115, 2) := by decide +kernel
theorem dX11_termNow_77 : decode cX11_termNow 77 = .ok (.iconst 0, 1) := by decide +kernel
theorem dX11_termNow_78 : decode cX11_termNow 78 = .ok (.iconst 0, 1) := by decide +kernel
theorem dX11_termNow_79 : decode cX11_termNow 79 = .ok (.invokevirtual 78, 3) := by decide +kernel
theorem dX11_termNow_82 : decode cX11_termNow 82 = .ok (.ifCond .eq 5, 3) := by decide +kernel
theorem dX11_termNow_85 : decode cX11_termNow 85 = .ok (.iconst 4, 1) := by decide +kernel
theorem dX11_termNow_86 : decode cX11_termNow 86 = .ok (.ireturn, 1) := by decide +kernel
theorem dX11_termNow_87 : decode cX11_termNow 87 = .ok (.aload_n 0, 1) := by decide +kernel
theorem dX11_termNow_88 : decode cX11_termNow 88 = .ok (.iconst 3, 1) := by decide +kernel
theorem dX11_termNow_89 : decode cX11_termNow 89 = .ok (.bipush 110, 2) := by decide +kernel
theorem dX11_termNow_91 : decode cX11_termNow 91 = .ok (.bipush 111, 2) := by decide +kernel
theorem dX11_termNow_93 : decode cX11_termNow 93 = .ok (.bipush 116, 2) := by decide +kernel
theorem dX11_termNow_95 : decode cX11_termNow 95 = .ok (.iconst 0, 1) := by decide +kernel
theorem dX11_termNow_96 : decode cX11_termNow 96 = .ok (.invokevirtual 78, 3) := by decide +kernel
theorem dX11_termNow_99 : decode cX11_termNow 99 = .ok (.ifCond .eq 5, 3) := by decide +kernel
theorem dX11_termNow_102 : decode cX11_termNow 102 = .ok (.iconst 5, 1) := by decide +kernel
theorem dX11_termNow_103 : decode cX11_termNow 103 = .ok (.ireturn, 1) := by decide +kernel
theorem dX11_termNow_104 : decode cX11_termNow 104 = .ok (.aload_n 0, 1) := by decide +kernel
theorem dX11_termNow_105 : decode cX11_termNow 105 = .ok (.iconst 5, 1) := by decide +kernel
theorem dX11_termNow_106 : decode cX11_termNow 106 = .ok (.bipush 97, 2) := by decide +kernel
theorem dX11_termNow_108 : decode cX11_termNow 108 = .ok (.bipush 102, 2) := by decide +kernel
theorem dX11_termNow_110 : decode cX11_termNow 110 = .ok (.bipush 116, 2) := by decide +kernel
theorem dX11_termNow_112 : decode cX11_termNow 112 = .ok (.bipush 101, 2) := by decide +kernel
theorem dX11_termNow_114 : decode cX11_termNow 114 = .ok (.invokevirtual 78, 3) := by decide +kernel
theorem dX11_termNow_117 : decode cX11_termNow 117 = .ok (.ifCond .eq 23, 3) := by decide +kernel
theorem dX11_termNow_120 : decode cX11_termNow 120 = .ok (.aload_n 0, 1) := by decide +kernel
theorem dX11_termNow_121 : decode cX11_termNow 121 = .ok (.aload_n 0, 1) := by decide +kernel
theorem dX11_termNow_122 : decode cX11_termNow 122 = .ok (.getfield 65, 3) := by decide +kernel
theorem dX11_termNow_125 : decode cX11_termNow 125 = .ok (.iconst 4, 1) := by decide +kernel
theorem dX11_termNow_126 : decode cX11_termNow 126 = .ok (.iadd, 1) := by decide +kernel
theorem dX11_termNow_127 : decode cX11_termNow 127 = .ok (.invokevirtual 74, 3) := by decide +kernel
theorem dX11_termNow_130 : decode cX11_termNow 130 = .ok (.bipush 114, 2) := by decide +kernel
theorem dX11_termNow_132 : decode cX11_termNow 132 = .ok (.if_icmp .ne 8, 3) := by decide +kernel
theorem dX11_termNow_135 : decode cX11_termNow 135 = .ok (.bipush 6, 2) := by decide +kernel
theorem dX11_termNow_137 : decode cX11_termNow 137 = .ok (.goto 5, 3) := by decide +kernel
theorem dX11_termNow_140 : decode cX11_termNow 140 = .ok (.bipush (-4), 2) := by decide +kernel
theorem dX11_termNow_142 : decode cX11_termNow 142 = .ok (.ireturn, 1) := by decide +kernel
theorem dX11_lineNow_0 : decode cX11_lineNow 0 = .ok (.aload_n 0, 1) := by decide +kernel
theorem dX11_lineNow_1 : decode cX11_lineNow 1 = .ok (.iconst 5, 1) := by decide +kernel
theorem dX11_lineNow_2 : decode cX11_lineNow 2 = .ok (.bipush 115, 2) := by decide +kernel
theorem dX11_lineNow_4 : decode cX11_lineNow 4 = .ok (.bipush 116, 2) := by decide +kernel
theorem dX11_lineNow_6 : decode cX11_lineNow 6 = .ok (.bipush 97, 2) := by decide +kernel
theorem dX11_lineNow_8 : decode cX11_lineNow 8 = .ok (.bipush 116, 2) := by decide +kernel
theorem dX11_lineNow_10 : decode cX11_lineNow 10 = .ok (.invokevirtual 78, 3) := by decide +kernel
theorem dX11_lineNow_13 : decode cX11_lineNow 13 = .ok (.ifCond .eq 21, 3) := by decide +kernel
theorem dX11_lineNow_16 : decode cX11_lineNow 16 = .ok (.aload_n 0, 1) := by decide +kernel
theorem dX11_lineNow_17 : decode cX11_lineNow 17 = .ok (.aload_n 0, 1) := by decide +kernel
theorem dX11_lineNow_18 : decode cX11_lineNow 18 = .ok (.getfield 65, 3) := by decide +kernel
theorem dX11_lineNow_21 : decode cX11_lineNow 21 = .ok (.iconst 4, 1) := by decide +kernel
theorem dX11_lineNow_22 : decode cX11_lineNow 22 = .ok (.iadd, 1) := by decide +kernel
theorem dX11_lineNow_23 : decode cX11_lineNow 23 = .ok (.invokevirtual 74, 3) := by decide +kernel
theorem dX11_lineNow_26 : decode cX11_lineNow 26 = .ok (.bipush 101, 2) := by decide +kernel
theorem dX11_lineNow_28 : decode cX11_lineNow 28 = .ok (.if_icmp .ne 6, 3) := by decide +kernel
theorem dX11_lineNow_31 : decode cX11_lineNow 31 = .ok (.bipush 20, 2) := by decide +kernel
theorem dX11_lineNow_33 : decode cX11_lineNow 33 = .ok (.ireturn, 1) := by decide +kernel
theorem dX11_lineNow_34 : decode cX11_lineNow 34 = .ok (.aload_n 0, 1) := by decide +kernel
theorem dX11_lineNow_35 : decode cX11_lineNow 35 = .ok (.iconst 4, 1) := by decide +kernel
theorem dX11_lineNow_36 : decode cX11_lineNow 36 = .ok (.bipush 107, 2) := by decide +kernel
theorem dX11_lineNow_38 : decode cX11_lineNow 38 = .ok (.bipush 101, 2) := by decide +kernel
theorem dX11_lineNow_40 : decode cX11_lineNow 40 = .ok (.bipush 101, 2) := by decide +kernel
theorem dX11_lineNow_42 : decode cX11_lineNow 42 = .ok (.bipush 112, 2) := by decide +kernel
theorem dX11_lineNow_44 : decode cX11_lineNow 44 = .ok (.invokevirtual 78, 3) := by decide +kernel
theorem dX11_lineNow_47 : decode cX11_lineNow 47 = .ok (.ifCond .eq 6, 3) := by decide +kernel
theorem dX11_lineNow_50 : decode cX11_lineNow 50 = .ok (.bipush 21, 2) := by decide +kernel
theorem dX11_lineNow_52 : decode cX11_lineNow 52 = .ok (.ireturn, 1) := by decide +kernel
theorem dX11_lineNow_53 : decode cX11_lineNow 53 = .ok (.aload_n 0, 1) := by decide +kernel
theorem dX11_lineNow_54 : decode cX11_lineNow 54 = .ok (.iconst 5, 1) := by decide +kernel
theorem dX11_lineNow_55 : decode cX11_lineNow 55 = .ok (.bipush 100, 2) := by decide +kernel
theorem dX11_lineNow_57 : decode cX11_lineNow 57 = .ok (.bipush 101, 2) := by decide +kernel
theorem dX11_lineNow_59 : decode cX11_lineNow 59 = .ok (.bipush 112, 2) := by decide +kernel
theorem dX11_lineNow_61 : decode cX11_lineNow 61 = .ok (.bipush 116, 2) := by decide +kernel
theorem dX11_lineNow_63 : decode cX11_lineNow 63 = .ok (.invokevirtual 78, 3) := by decide +kernel
theorem dX11_lineNow_66 : decode cX11_lineNow 66 = .ok (.ifCond .eq 21, 3) := by decide +kernel
theorem dX11_lineNow_69 : decode cX11_lineNow 69 = .ok (.aload_n 0, 1) := by decide +kernel
theorem dX11_lineNow_70 : decode cX11_lineNow 70 = .ok (.aload_n 0, 1) := by decide +kernel
theorem dX11_lineNow_71 : decode cX11_lineNow 71 = .ok (.getfield 65, 3) := by decide +kernel
theorem dX11_lineNow_74 : decode cX11_lineNow 74 = .ok (.iconst 4, 1) := by decide +kernel
theorem dX11_lineNow_75 : decode cX11_lineNow 75 = .ok (.iadd, 1) := by decide +kernel
theorem dX11_lineNow_76 : decode cX11_lineNow 76 = .ok (.invokevirtual 74, 3) := by decide +kernel
theorem dX11_lineNow_79 : decode cX11_lineNow 79 = .ok (.bipush 104, 2) := by decide +kernel
theorem dX11_lineNow_81 : decode cX11_lineNow 81 = .ok (.if_icmp .ne 6, 3) := by decide +kernel
theorem dX11_lineNow_84 : decode cX11_lineNow 84 = .ok (.bipush 22, 2) := by decide +kernel
theorem dX11_lineNow_86 : decode cX11_lineNow 86 = .ok (.ireturn, 1) := by decide +kernel
theorem dX11_lineNow_87 : decode cX11_lineNow 87 = .ok (.aload_n 0, 1) := by decide +kernel
theorem dX11_lineNow_88 : decode cX11_lineNow 88 = .ok (.iconst 5, 1) := by decide +kernel
theorem dX11_lineNow_89 : decode cX11_lineNow 89 = .ok (.bipush 97, 2) := by decide +kernel
theorem dX11_lineNow_91 : decode cX11_lineNow 91 = .ok (.bipush 104, 2) := by decide +kernel
theorem dX11_lineNow_93 : decode cX11_lineNow 93 = .ok (.bipush 101, 2) := by decide +kernel
theorem dX11_lineNow_95 : decode cX11_lineNow 95 = .ok (.bipush 97, 2) := by decide +kernel
theorem dX11_lineNow_97 : decode cX11_lineNow 97 = .ok (.invokevirtual 78, 3) := by decide +kernel
theorem dX11_lineNow_100 : decode cX11_lineNow 100 = .ok (.ifCond .eq 23, 3) := by decide +kernel
theorem dX11_lineNow_103 : decode cX11_lineNow 103 = .ok (.aload_n 0, 1) := by decide +kernel
theorem dX11_lineNow_104 : decode cX11_lineNow 104 = .ok (.aload_n 0, 1) := by decide +kernel
theorem dX11_lineNow_105 : decode cX11_lineNow 105 = .ok (.getfield 65, 3) := by decide +kernel
theorem dX11_lineNow_108 : decode cX11_lineNow 108 = .ok (.iconst 4, 1) := by decide +kernel
theorem dX11_lineNow_109 : decode cX11_lineNow 109 = .ok (.iadd, 1) := by decide +kernel
theorem dX11_lineNow_110 : decode cX11_lineNow 110 = .ok (.invokevirtual 74, 3) := by decide +kernel
theorem dX11_lineNow_113 : decode cX11_lineNow 113 = .ok (.bipush 100, 2) := by decide +kernel
theorem dX11_lineNow_115 : decode cX11_lineNow 115 = .ok (.if_icmp .ne 8, 3) := by decide +kernel
theorem dX11_lineNow_118 : decode cX11_lineNow 118 = .ok (.bipush 23, 2) := by decide +kernel
theorem dX11_lineNow_120 : decode cX11_lineNow 120 = .ok (.goto 5, 3) := by decide +kernel
theorem dX11_lineNow_123 : decode cX11_lineNow 123 = .ok (.bipush (-4), 2) := by decide +kernel
theorem dX11_lineNow_125 : decode cX11_lineNow 125 = .ok (.ireturn, 1) := by decide +kernel
theorem dX11_wordNow_0 : decode cX11_wordNow 0 = .ok (.aload_n 0, 1) := by decide +kernel
theorem dX11_wordNow_1 : decode cX11_wordNow 1 = .ok (.iconst 5, 1) := by decide +kernel
theorem dX11_wordNow_2 : decode cX11_wordNow 2 = .ok (.bipush 116, 2) := by decide +kernel
theorem dX11_wordNow_4 : decode cX11_wordNow 4 = .ok (.bipush 105, 2) := by decide +kernel
theorem dX11_wordNow_6 : decode cX11_wordNow 6 = .ok (.bipush 109, 2) := by decide +kernel
theorem dX11_wordNow_8 : decode cX11_wordNow 8 = .ok (.bipush 101, 2) := by decide +kernel
theorem dX11_wordNow_10 : decode cX11_wordNow 10 = .ok (.invokevirtual 78, 3) := by decide +kernel
theorem dX11_wordNow_13 : decode cX11_wordNow 13 = .ok (.ifCond .eq 21, 3) := by decide +kernel
theorem dX11_wordNow_16 : decode cX11_wordNow 16 = .ok (.aload_n 0, 1) := by decide +kernel
theorem dX11_wordNow_17 : decode cX11_wordNow 17 = .ok (.aload_n 0, 1) := by decide +kernel
theorem dX11_wordNow_18 : decode cX11_wordNow 18 = .ok (.getfield 65, 3) := by decide +kernel
theorem dX11_wordNow_21 : decode cX11_wordNow 21 = .ok (.iconst 4, 1) := by decide +kernel
theorem dX11_wordNow_22 : decode cX11_wordNow 22 = .ok (.iadd, 1) := by decide +kernel
theorem dX11_wordNow_23 : decode cX11_wordNow 23 = .ok (.invokevirtual 74, 3) := by decide +kernel
theorem dX11_wordNow_26 : decode cX11_wordNow 26 = .ok (.bipush 115, 2) := by decide +kernel
theorem dX11_wordNow_28 : decode cX11_wordNow 28 = .ok (.if_icmp .ne 6, 3) := by decide +kernel
theorem dX11_wordNow_31 : decode cX11_wordNow 31 = .ok (.bipush 30, 2) := by decide +kernel
theorem dX11_wordNow_33 : decode cX11_wordNow 33 = .ok (.ireturn, 1) := by decide +kernel
theorem dX11_wordNow_34 : decode cX11_wordNow 34 = .ok (.aload_n 0, 1) := by decide +kernel
theorem dX11_wordNow_35 : decode cX11_wordNow 35 = .ok (.iconst 2, 1) := by decide +kernel
theorem dX11_wordNow_36 : decode cX11_wordNow 36 = .ok (.bipush 103, 2) := by decide +kernel
theorem dX11_wordNow_38 : decode cX11_wordNow 38 = .ok (.bipush 111, 2) := by decide +kernel
theorem dX11_wordNow_40 : decode cX11_wordNow 40 = .ok (.iconst 0, 1) := by decide +kernel
theorem dX11_wordNow_41 : decode cX11_wordNow 41 = .ok (.iconst 0, 1) := by decide +kernel
theorem dX11_wordNow_42 : decode cX11_wordNow 42 = .ok (.invokevirtual 78, 3) := by decide +kernel
theorem dX11_wordNow_45 : decode cX11_wordNow 45 = .ok (.ifCond .eq 8, 3) := by decide +kernel
theorem dX11_wordNow_48 : decode cX11_wordNow 48 = .ok (.bipush 31, 2) := by decide +kernel
theorem dX11_wordNow_50 : decode cX11_wordNow 50 = .ok (.goto 25, 3) := by decide +kernel
theorem dX11_wordNow_53 : decode cX11_wordNow 53 = .ok (.aload_n 0, 1) := by decide +kernel
theorem dX11_wordNow_54 : decode cX11_wordNow 54 = .ok (.iconst 3, 1) := by decide +kernel
theorem dX11_wordNow_55 : decode cX11_wordNow 55 = .ok (.bipush 104, 2) := by decide +kernel
theorem dX11_wordNow_57 : decode cX11_wordNow 57 = .ok (.bipush 105, 2) := by decide +kernel
theorem dX11_wordNow_59 : decode cX11_wordNow 59 = .ok (.bipush 116, 2) := by decide +kernel
theorem dX11_wordNow_61 : decode cX11_wordNow 61 = .ok (.iconst 0, 1) := by decide +kernel
theorem dX11_wordNow_62 : decode cX11_wordNow 62 = .ok (.invokevirtual 78, 3) := by decide +kernel
theorem dX11_wordNow_65 : decode cX11_wordNow 65 = .ok (.ifCond .eq 8, 3) := by decide +kernel
theorem dX11_wordNow_68 : decode cX11_wordNow 68 = .ok (.bipush 32, 2) := by decide +kernel
theorem dX11_wordNow_70 : decode cX11_wordNow 70 = .ok (.goto 5, 3) := by decide +kernel
theorem dX11_wordNow_73 : decode cX11_wordNow 73 = .ok (.bipush (-4), 2) := by decide +kernel
theorem dX11_wordNow_75 : decode cX11_wordNow 75 = .ok (.ireturn, 1) := by decide +kernel
theorem dX11_token_0 : decode cX11_token 0 = .ok (.aload_n 0, 1) := by decide +kernel
theorem dX11_token_1 : decode cX11_token 1 = .ok (.getfield 62, 3) := by decide +kernel
theorem dX11_token_4 : decode cX11_token 4 = .ok (.ifCond .le 4, 3) := by decide +kernel
theorem dX11_token_7 : decode cX11_token 7 = .ok (.return_, 1) := by decide +kernel
theorem dX11_token_8 : decode cX11_token 8 = .ok (.aload_n 0, 1) := by decide +kernel
theorem dX11_token_9 : decode cX11_token 9 = .ok (.aload_n 0, 1) := by decide +kernel
theorem dX11_token_10 : decode cX11_token 10 = .ok (.getfield 71, 3) := by decide +kernel
theorem dX11_token_13 : decode cX11_token 13 = .ok (.invokevirtual 74, 3) := by decide +kernel
theorem dX11_token_16 : decode cX11_token 16 = .ok (.bipush 32, 2) := by decide +kernel
theorem dX11_token_18 : decode cX11_token 18 = .ok (.if_icmp .ne 16, 3) := by decide +kernel
theorem dX11_token_21 : decode cX11_token 21 = .ok (.aload_n 0, 1) := by decide +kernel
theorem dX11_token_22 : decode cX11_token 22 = .ok (.dup, 1) := by decide +kernel
theorem dX11_token_23 : decode cX11_token 23 = .ok (.getfield 71, 3) := by decide +kernel
theorem dX11_token_26 : decode cX11_token 26 = .ok (.iconst 1, 1) := by decide +kernel
theorem dX11_token_27 : decode cX11_token 27 = .ok (.iadd, 1) := by decide +kernel
theorem dX11_token_28 : decode cX11_token 28 = .ok (.putfield 71, 3) := by decide +kernel
theorem dX11_token_31 : decode cX11_token 31 = .ok (.goto (-23), 3) := by decide +kernel
theorem dX11_token_34 : decode cX11_token 34 = .ok (.aload_n 0, 1) := by decide +kernel
theorem dX11_token_35 : decode cX11_token 35 = .ok (.aload_n 0, 1) := by decide +kernel
theorem dX11_token_36 : decode cX11_token 36 = .ok (.getfield 71, 3) := by decide +kernel
theorem dX11_token_39 : decode cX11_token 39 = .ok (.putfield 65, 3) := by decide +kernel
theorem dX11_token_42 : decode cX11_token 42 = .ok (.aload_n 0, 1) := by decide +kernel
theorem dX11_token_43 : decode cX11_token 43 = .ok (.aload_n 0, 1) := by decide +kernel
theorem dX11_token_44 : decode cX11_token 44 = .ok (.getfield 71, 3) := by decide +kernel
theorem dX11_token_47 : decode cX11_token 47 = .ok (.invokevirtual 74, 3) := by decide +kernel
theorem dX11_token_50 : decode cX11_token 50 = .ok (.istore_n 1, 1) := by decide +kernel
theorem dX11_token_51 : decode cX11_token 51 = .ok (.iload_n 1, 1) := by decide +kernel
theorem dX11_token_52 : decode cX11_token 52 = .ok (.ifCond .ge 11, 3) := by decide +kernel
theorem dX11_token_55 : decode cX11_token 55 = .ok (.aload_n 0, 1) := by decide +kernel
theorem dX11_token_56 : decode cX11_token 56 = .ok (.iconst 0, 1) := by decide +kernel
theorem dX11_token_57 : decode cX11_token 57 = .ok (.putfield 82, 3) := by decide +kernel
theorem dX11_token_60 : decode cX11_token 60 = .ok (.goto 246, 3) := by decide +kernel
theorem dX11_token_63 : decode cX11_token 63 = .ok (.iload_n 1, 1) := by decide +kernel
theorem dX11_token_64 : decode cX11_token 64 = .ok (.i2l, 1) := by decide +kernel
theorem dX11_token_65 : decode cX11_token 65 = .ok (.ldc2_w 85, 3) := by decide +kernel
theorem dX11_token_68 : decode cX11_token 68 = .ok (.ldc2_w 87, 3) := by decide +kernel
theorem dX11_token_71 : decode cX11_token 71 = .ok (.invokestatic 58, 3) := by decide +kernel
theorem dX11_token_74 : decode cX11_token 74 = .ok (.ifCond .eq 42, 3) := by decide +kernel
theorem dX11_token_77 : decode cX11_token 77 = .ok (.aload_n 0, 1) := by decide +kernel
theorem dX11_token_78 : decode cX11_token 78 = .ok (.iconst 1, 1) := by decide +kernel
theorem dX11_token_79 : decode cX11_token 79 = .ok (.putfield 82, 3) := by decide +kernel
theorem dX11_token_82 : decode cX11_token 82 = .ok (.aload_n 0, 1) := by decide +kernel
theorem dX11_token_83 : decode cX11_token 83 = .ok (.aload_n 0, 1) := by decide +kernel
theorem dX11_token_84 : decode cX11_token 84 = .ok (.getfield 71, 3) := by decide +kernel
theorem dX11_token_87 : decode cX11_token 87 = .ok (.invokevirtual 74, 3) := by decide +kernel
theorem dX11_token_90 : decode cX11_token 90 = .ok (.i2l, 1) := by decide +kernel
theorem dX11_token_91 : decode cX11_token 91 = .ok (.ldc2_w 85, 3) := by decide +kernel
theorem dX11_token_94 : decode cX11_token 94 = .ok (.ldc2_w 87, 3) := by decide +kernel
theorem dX11_token_97 : decode cX11_token 97 = .ok (.invokestatic 58, 3) := by decide +kernel
theorem dX11_token_100 : decode cX11_token 100 = .ok (.ifCond .eq 206, 3) := by decide +kernel
theorem dX11_token_103 : decode cX11_token 103 = .ok (.aload_n 0, 1) := by decide +kernel
theorem dX11_token_104 : decode cX11_token 104 = .ok (.dup, 1) := by decide +kernel
theorem dX11_token_105 : decode cX11_token 105 = .ok (.getfield 71, 3) := by decide +kernel
theorem dX11_token_108 : decode cX11_token 108 = .ok (.iconst 1, 1) := by decide +kernel
theorem dX11_token_109 : decode cX11_token 109 = .ok (.iadd, 1) := by decide +kernel
theorem dX11_token_110 : decode cX11_token 110 = .ok (.putfield 71, 3) := by decide +kernel
theorem dX11_token_113 : decode cX11_token 113 = .ok (.goto (-31), 3) := by decide +kernel
theorem dX11_token_116 : decode cX11_token 116 = .ok (.iload_n 1, 1) := by decide +kernel
theorem dX11_token_117 : decode cX11_token 117 = .ok (.i2l, 1) := by decide +kernel
theorem dX11_token_118 : decode cX11_token 118 = .ok (.ldc2_w 89, 3) := by decide +kernel
theorem dX11_token_121 : decode cX11_token 121 = .ok (.ldc2_w 91, 3) := by decide +kernel
theorem dX11_token_124 : decode cX11_token 124 = .ok (.invokestatic 58, 3) := by decide +kernel
theorem dX11_token_127 : decode cX11_token 127 = .ok (.ifCond .eq 116, 3) := by decide +kernel
theorem dX11_token_130 : decode cX11_token 130 = .ok (.aload_n 0, 1) := by decide +kernel
theorem dX11_token_131 : decode cX11_token 131 = .ok (.iconst 2, 1) := by decide +kernel
theorem dX11_token_132 : decode cX11_token 132 = .ok (.putfield 82, 3) := by decide +kernel
theorem dX11_token_135 : decode cX11_token 135 = .ok (.aload_n 0, 1) := by decide +kernel
theorem dX11_token_136 : decode cX11_token 136 = .ok (.iconst 0, 1) := by decide +kernel
theorem dX11_token_137 : decode cX11_token 137 = .ok (.putfield 93, 3) := by decide +kernel
theorem dX11_token_140 : decode cX11_token 140 = .ok (.aload_n 0, 1) := by decide +kernel
theorem dX11_token_141 : decode cX11_token 141 = .ok (.aload_n 0, 1) := by decide +kernel
theorem dX11_token_142 : decode cX11_token 142 = .ok (.getfield 71, 3) := by decide +kernel
theorem dX11_token_145 : decode cX11_token 145 = .ok (.invokevirtual 74, 3) := by decide +kernel
theorem dX11_token_148 : decode cX11_token 148 = .ok (.i2l, 1) := by decide +kernel
theorem dX11_token_149 : decode cX11_token 149 = .ok (.ldc2_w 89, 3) := by decide +kernel
theorem dX11_token_152 : decode cX11_token 152 = .ok (.ldc2_w 91, 3) := by decide +kernel
theorem dX11_token_155 : decode cX11_token 155 = .ok (.invokestatic 58, 3) := by decide +kernel
theorem dX11_token_158 : decode cX11_token 158 = .ok (.ifCond .eq 59, 3) := by decide +kernel
theorem dX11_token_161 : decode cX11_token 161 = .ok (.aload_n 0, 1) := by decide +kernel
theorem dX11_token_162 : decode cX11_token 162 = .ok (.aload_n 0, 1) := by decide +kernel
theorem dX11_token_163 : decode cX11_token 163 = .ok (.getfield 71, 3) := by decide +kernel
theorem dX11_token_166 : decode cX11_token 166 = .ok (.aload_n 0, 1) := by decide +kernel
theorem dX11_token_167 : decode cX11_token 167 = .ok (.getfield 65, 3) := by decide +kernel
theorem dX11_token_170 : decode cX11_token 170 = .ok (.isub, 1) := by decide +kernel
theorem dX11_token_171 : decode cX11_token 171 = .ok (.iconst 3, 1) := by decide +kernel
theorem dX11_token_172 : decode cX11_token 172 = .ok (.if_icmp .ge 25, 3) := by decide +kernel
theorem dX11_token_175 : decode cX11_token 175 = .ok (.bipush 10, 2) := by decide +kernel
theorem dX11_token_177 : decode cX11_token 177 = .ok (.aload_n 0, 1) := by decide +kernel
theorem dX11_token_178 : decode cX11_token 178 = .ok (.getfield 93, 3) := by decide +kernel
theorem dX11_token_181 : decode cX11_token 181 = .ok (.imul, 1) := by decide +kernel
theorem dX11_token_182 : decode cX11_token 182 = .ok (.aload_n 0, 1) := by decide +kernel
theorem dX11_token_183 : decode cX11_token 183 = .ok (.aload_n 0, 1) := by decide +kernel
theorem dX11_token_184 : decode cX11_token 184 = .ok (.getfield 71, 3) := by decide +kernel
theorem dX11_token_187 : decode cX11_token 187 = .ok (.invokevirtual 74, 3) := by decide +kernel
theorem dX11_token_190 : decode cX11_token 190 = .ok (.iadd, 1) := by decide +kernel
theorem dX11_token_191 : decode cX11_token 191 = .ok (.bipush 48, 2) := by decide +kernel
theorem dX11_token_193 : decode cX11_token 193 = .ok (.isub, 1) := by decide +kernel
theorem dX11_token_194 : decode cX11_token 194 = .ok (.goto 7, 3) := by decide +kernel
theorem dX11_token_197 : decode cX11_token 197 = .ok (.aload_n 0, 1) := by decide +kernel
theorem dX11_token_198 : decode cX11_token 198 = .ok (.getfield 93, 3) := by decide +kernel
theorem dX11_token_201 : decode cX11_token 201 = .ok (.putfield 93, 3) := by decide +kernel
theorem dX11_token_204 : decode cX11_token 204 = .ok (.aload_n 0, 1) := by decide +kernel
theorem dX11_token_205 : decode cX11_token 205 = .ok (.dup, 1) := by decide +kernel
theorem dX11_token_206 : decode cX11_token 206 = .ok (.getfield 71, 3) := by decide +kernel
theorem dX11_token_209 : decode cX11_token 209 = .ok (.iconst 1, 1) := by decide +kernel
theorem dX11_token_210 : decode cX11_token 210 = .ok (.iadd, 1) := by decide +kernel
theorem dX11_token_211 : decode cX11_token 211 = .ok (.putfield 71, 3) := by decide +kernel
theorem dX11_token_214 : decode cX11_token 214 = .ok (.goto (-74), 3) := by decide +kernel
theorem dX11_token_217 : decode cX11_token 217 = .ok (.aload_n 0, 1) := by decide +kernel
theorem dX11_token_218 : decode cX11_token 218 = .ok (.aload_n 0, 1) := by decide +kernel
theorem dX11_token_219 : decode cX11_token 219 = .ok (.getfield 71, 3) := by decide +kernel
theorem dX11_token_222 : decode cX11_token 222 = .ok (.aload_n 0, 1) := by decide +kernel
theorem dX11_token_223 : decode cX11_token 223 = .ok (.getfield 65, 3) := by decide +kernel
theorem dX11_token_226 : decode cX11_token 226 = .ok (.isub, 1) := by decide +kernel
theorem dX11_token_227 : decode cX11_token 227 = .ok (.iconst 3, 1) := by decide +kernel
theorem dX11_token_228 : decode cX11_token 228 = .ok (.if_icmp .gt 7, 3) := by decide +kernel
theorem dX11_token_231 : decode cX11_token 231 = .ok (.iconst 1, 1) := by decide +kernel
theorem dX11_token_232 : decode cX11_token 232 = .ok (.goto 4, 3) := by decide +kernel
theorem dX11_token_235 : decode cX11_token 235 = .ok (.iconst 0, 1) := by decide +kernel
theorem dX11_token_236 : decode cX11_token 236 = .ok (.iconst 1, 1) := by decide +kernel
theorem dX11_token_237 : decode cX11_token 237 = .ok (.invokevirtual 96, 3) := by decide +kernel
theorem dX11_token_240 : decode cX11_token 240 = .ok (.goto 66, 3) := by decide +kernel
theorem dX11_token_243 : decode cX11_token 243 = .ok (.aload_n 0, 1) := by decide +kernel
theorem dX11_token_244 : decode cX11_token 244 = .ok (.iload_n 1, 1) := by decide +kernel
theorem dX11_token_245 : decode cX11_token 245 = .ok (.bipush 124, 2) := by decide +kernel
theorem dX11_token_247 : decode cX11_token 247 = .ok (.if_icmp .ne 7, 3) := by decide +kernel
theorem dX11_token_250 : decode cX11_token 250 = .ok (.iconst 4, 1) := by decide +kernel
theorem dX11_token_251 : decode cX11_token 251 = .ok (.goto 14, 3) := by decide +kernel
theorem dX11_token_254 : decode cX11_token 254 = .ok (.iload_n 1, 1) := by decide +kernel
theorem dX11_token_255 : decode cX11_token 255 = .ok (.bipush 38, 2) := by decide +kernel
theorem dX11_token_257 : decode cX11_token 257 = .ok (.if_icmp .ne 7, 3) := by decide +kernel
theorem dX11_token_260 : decode cX11_token 260 = .ok (.iconst 5, 1) := by decide +kernel
theorem dX11_token_261 : decode cX11_token 261 = .ok (.goto 4, 3) := by decide +kernel
theorem dX11_token_264 : decode cX11_token 264 = .ok (.iconst 3, 1) := by decide +kernel
theorem dX11_token_265 : decode cX11_token 265 = .ok (.putfield 82, 3) := by decide +kernel
theorem dX11_token_268 : decode cX11_token 268 = .ok (.aload_n 0, 1) := by decide +kernel
theorem dX11_token_269 : decode cX11_token 269 = .ok (.iload_n 1, 1) := by decide +kernel
theorem dX11_token_270 : decode cX11_token 270 = .ok (.bipush 59, 2) := by decide +kernel
theorem dX11_token_272 : decode cX11_token 272 = .ok (.if_icmp .eq 15, 3) := by decide +kernel
theorem dX11_token_275 : decode cX11_token 275 = .ok (.iload_n 1, 1) := by decide +kernel
theorem dX11_token_276 : decode cX11_token 276 = .ok (.bipush 124, 2) := by decide +kernel
theorem dX11_token_278 : decode cX11_token 278 = .ok (.if_icmp .eq 9, 3) := by decide +kernel
theorem dX11_token_281 : decode cX11_token 281 = .ok (.iload_n 1, 1) := by decide +kernel
theorem dX11_token_282 : decode cX11_token 282 = .ok (.bipush 38, 2) := by decide +kernel
theorem dX11_token_284 : decode cX11_token 284 = .ok (.if_icmp .ne 7, 3) := by decide +kernel
theorem dX11_token_287 : decode cX11_token 287 = .ok (.iconst 1, 1) := by decide +kernel
theorem dX11_token_288 : decode cX11_token 288 = .ok (.goto 4, 3) := by decide +kernel
theorem dX11_token_291 : decode cX11_token 291 = .ok (.iconst 0, 1) := by decide +kernel
theorem dX11_token_292 : decode cX11_token 292 = .ok (.iconst 1, 1) := by decide +kernel
theorem dX11_token_293 : decode cX11_token 293 = .ok (.invokevirtual 96, 3) := by decide +kernel
theorem dX11_token_296 : decode cX11_token 296 = .ok (.aload_n 0, 1) := by decide +kernel
theorem dX11_token_297 : decode cX11_token 297 = .ok (.dup, 1) := by decide +kernel
theorem dX11_token_298 : decode cX11_token 298 = .ok (.getfield 71, 3) := by decide +kernel
theorem dX11_token_301 : decode cX11_token 301 = .ok (.iconst 1, 1) := by decide +kernel
theorem dX11_token_302 : decode cX11_token 302 = .ok (.iadd, 1) := by decide +kernel
theorem dX11_token_303 : decode cX11_token 303 = .ok (.putfield 71, 3) := by decide +kernel
theorem dX11_token_306 : decode cX11_token 306 = .ok (.return_, 1) := by decide +kernel
theorem dX11_readNumber_0 : decode cX11_readNumber 0 = .ok (.aload_n 0, 1) := by decide +kernel
theorem dX11_readNumber_1 : decode cX11_readNumber 1 = .ok (.getfield 62, 3) := by decide +kernel
theorem dX11_readNumber_4 : decode cX11_readNumber 4 = .ok (.ifCond .ne 21, 3) := by decide +kernel
theorem dX11_readNumber_7 : decode cX11_readNumber 7 = .ok (.aload_n 0, 1) := by decide +kernel
theorem dX11_readNumber_8 : decode cX11_readNumber 8 = .ok (.aload_n 0, 1) := by decide +kernel
theorem dX11_readNumber_9 : decode cX11_readNumber 9 = .ok (.getfield 82, 3) := by decide +kernel
theorem dX11_readNumber_12 : decode cX11_readNumber 12 = .ok (.iconst 2, 1) := by decide +kernel
theorem dX11_readNumber_13 : decode cX11_readNumber 13 = .ok (.if_icmp .ne 7, 3) := by decide +kernel
theorem dX11_readNumber_16 : decode cX11_readNumber 16 = .ok (.iconst 1, 1) := by decide +kernel
theorem dX11_readNumber_17 : decode cX11_readNumber 17 = .ok (.goto 4, 3) := by decide +kernel
theorem dX11_readNumber_20 : decode cX11_readNumber 20 = .ok (.iconst 0, 1) := by decide +kernel
theorem dX11_readNumber_21 : decode cX11_readNumber 21 = .ok (.iconst 2, 1) := by decide +kernel
theorem dX11_readNumber_22 : decode cX11_readNumber 22 = .ok (.invokevirtual 96, 3) := by decide +kernel
theorem dX11_readNumber_25 : decode cX11_readNumber 25 = .ok (.aload_n 0, 1) := by decide +kernel
theorem dX11_readNumber_26 : decode cX11_readNumber 26 = .ok (.getfield 62, 3) := by decide +kernel
theorem dX11_readNumber_29 : decode cX11_readNumber 29 = .ok (.ifCond .ne 20, 3) := by decide +kernel
theorem dX11_readNumber_32 : decode cX11_readNumber 32 = .ok (.aload_n 0, 1) := by decide +kernel
theorem dX11_readNumber_33 : decode cX11_readNumber 33 = .ok (.aload_n 0, 1) := by decide +kernel
theorem dX11_readNumber_34 : decode cX11_readNumber 34 = .ok (.getfield 93, 3) := by decide +kernel
theorem dX11_readNumber_37 : decode cX11_readNumber 37 = .ok (.i2l, 1) := by decide +kernel
theorem dX11_readNumber_38 : decode cX11_readNumber 38 = .ok (.iload_n 1, 1) := by decide +kernel
theorem dX11_readNumber_39 : decode cX11_readNumber 39 = .ok (.i2l, 1) := by decide +kernel
theorem dX11_readNumber_40 : decode cX11_readNumber 40 = .ok (.iload_n 2, 1) := by decide +kernel
theorem dX11_readNumber_41 : decode cX11_readNumber 41 = .ok (.i2l, 1) := by decide +kernel
theorem dX11_readNumber_42 : decode cX11_readNumber 42 = .ok (.invokestatic 58, 3) := by decide +kernel
theorem dX11_readNumber_45 : decode cX11_readNumber 45 = .ok (.iconst 3, 1) := by decide +kernel
theorem dX11_readNumber_46 : decode cX11_readNumber 46 = .ok (.invokevirtual 96, 3) := by decide +kernel
theorem dX11_readNumber_49 : decode cX11_readNumber 49 = .ok (.aload_n 0, 1) := by decide +kernel
theorem dX11_readNumber_50 : decode cX11_readNumber 50 = .ok (.getfield 93, 3) := by decide +kernel
theorem dX11_readNumber_53 : decode cX11_readNumber 53 = .ok (.istore_n 3, 1) := by decide +kernel
theorem dX11_readNumber_54 : decode cX11_readNumber 54 = .ok (.aload_n 0, 1) := by decide +kernel
theorem dX11_readNumber_55 : decode cX11_readNumber 55 = .ok (.invokevirtual 100, 3) := by decide +kernel
theorem dX11_readNumber_58 : decode cX11_readNumber 58 = .ok (.iload_n 3, 1) := by decide +kernel
theorem dX11_readNumber_59 : decode cX11_readNumber 59 = .ok (.ireturn, 1) := by decide +kernel
theorem dX11_readCond_0 : decode cX11_readCond 0 = .ok (.iconst 0, 1) := by decide +kernel
theorem dX11_readCond_1 : decode cX11_readCond 1 = .ok (.istore_n 2, 1) := by decide +kernel
theorem dX11_readCond_2 : decode cX11_readCond 2 = .ok (.iconst 1, 1) := by decide +kernel
theorem dX11_readCond_3 : decode cX11_readCond 3 = .ok (.istore_n 3, 1) := by decide +kernel
theorem dX11_readCond_4 : decode cX11_readCond 4 = .ok (.aload_n 0, 1) := by decide +kernel
theorem dX11_readCond_5 : decode cX11_readCond 5 = .ok (.getfield 62, 3) := by decide +kernel
theorem dX11_readCond_8 : decode cX11_readCond 8 = .ok (.ifCond .ne 176, 3) := by decide +kernel
theorem dX11_readCond_11 : decode cX11_readCond 11 = .ok (.iload_n 3, 1) := by decide +kernel
theorem dX11_readCond_12 : decode cX11_readCond 12 = .ok (.ifCond .eq 172, 3) := by decide +kernel
theorem dX11_readCond_15 : decode cX11_readCond 15 = .ok (.aload_n 0, 1) := by decide +kernel
theorem dX11_readCond_16 : decode cX11_readCond 16 = .ok (.getfield 82, 3) := by decide +kernel
theorem dX11_readCond_19 : decode cX11_readCond 19 = .ok (.iconst 1, 1) := by decide +kernel
theorem dX11_readCond_20 : decode cX11_readCond 20 = .ok (.if_icmp .ne 10, 3) := by decide +kernel
theorem dX11_readCond_23 : decode cX11_readCond 23 = .ok (.aload_n 0, 1) := by decide +kernel
theorem dX11_readCond_24 : decode cX11_readCond 24 = .ok (.invokevirtual 103, 3) := by decide +kernel
theorem dX11_readCond_27 : decode cX11_readCond 27 = .ok (.goto 5, 3) := by decide +kernel
theorem dX11_readCond_30 : decode cX11_readCond 30 = .ok (.bipush (-4), 2) := by decide +kernel
theorem dX11_readCond_32 : decode cX11_readCond 32 = .ok (.istore 4, 2) := by decide +kernel
theorem dX11_readCond_34 : decode cX11_readCond 34 = .ok (.aload_n 0, 1) := by decide +kernel
theorem dX11_readCond_35 : decode cX11_readCond 35 = .ok (.iload 4, 2) := by decide +kernel
theorem dX11_readCond_37 : decode cX11_readCond 37 = .ok (.bipush (-4), 2) := by decide +kernel
theorem dX11_readCond_39 : decode cX11_readCond 39 = .ok (.if_icmp .eq 7, 3) := by decide +kernel
theorem dX11_readCond_42 : decode cX11_readCond 42 = .ok (.iconst 1, 1) := by decide +kernel
theorem dX11_readCond_43 : decode cX11_readCond 43 = .ok (.goto 4, 3) := by decide +kernel
theorem dX11_readCond_46 : decode cX11_readCond 46 = .ok (.iconst 0, 1) := by decide +kernel
theorem dX11_readCond_47 : decode cX11_readCond 47 = .ok (.iconst 2, 1) := by decide +kernel
theorem dX11_readCond_48 : decode cX11_readCond 48 = .ok (.invokevirtual 96, 3) := by decide +kernel
theorem dX11_readCond_51 : decode cX11_readCond 51 = .ok (.aload_n 0, 1) := by decide +kernel
theorem dX11_readCond_52 : decode cX11_readCond 52 = .ok (.invokevirtual 100, 3) := by decide +kernel
theorem dX11_readCond_55 : decode cX11_readCond 55 = .ok (.aload_n 0, 1) := by decide +kernel
theorem dX11_readCond_56 : decode cX11_readCond 56 = .ok (.iload 4, 2) := by decide +kernel
theorem dX11_readCond_58 : decode cX11_readCond 58 = .ok (.bipush 6, 2) := by decide +kernel
theorem dX11_readCond_60 : decode cX11_readCond 60 = .ok (.if_icmp .ne 7, 3) := by decide +kernel
theorem dX11_readCond_63 : decode cX11_readCond 63 = .ok (.iconst 1, 1) := by decide +kernel
theorem dX11_readCond_64 : decode cX11_readCond 64 = .ok (.goto 4, 3) := by decide +kernel
theorem dX11_readCond_67 : decode cX11_readCond 67 = .ok (.iconst 0, 1) := by decide +kernel
theorem dX11_readCond_68 : decode cX11_readCond 68 = .ok (.iload 4, 2) := by decide +kernel
theorem dX11_readCond_70 : decode cX11_readCond 70 = .ok (.iconst 4, 1) := by decide +kernel
theorem dX11_readCond_71 : decode cX11_readCond 71 = .ok (.if_icmp .ge 8, 3) := by decide +kernel
theorem dX11_readCond_74 : decode cX11_readCond 74 = .ok (.bipush 7, 2) := by decide +kernel
theorem dX11_readCond_76 : decode cX11_readCond 76 = .ok (.goto 19, 3) := by decide +kernel
theorem dX11_readCond_79 : decode cX11_readCond 79 = .ok (.iload 4, 2) := by decide +kernel
theorem dX11_readCond_81 : decode cX11_readCond 81 = .ok (.bipush 6, 2) := by decide +kernel
theorem dX11_readCond_83 : decode cX11_readCond 83 = .ok (.if_icmp .ne 9, 3) := by decide +kernel
theorem dX11_readCond_86 : decode cX11_readCond 86 = .ok (.sipush 999, 3) := by decide +kernel
theorem dX11_readCond_89 : decode cX11_readCond 89 = .ok (.goto 6, 3) := by decide +kernel
theorem dX11_readCond_92 : decode cX11_readCond 92 = .ok (.sipush 255, 3) := by decide +kernel
theorem dX11_readCond_95 : decode cX11_readCond 95 = .ok (.invokevirtual 107, 3) := by decide +kernel
theorem dX11_readCond_98 : decode cX11_readCond 98 = .ok (.istore 5, 2) := by decide +kernel
theorem dX11_readCond_100 : decode cX11_readCond 100 = .ok (.aload_n 0, 1) := by decide +kernel
theorem dX11_readCond_101 : decode cX11_readCond 101 = .ok (.getfield 62, 3) := by decide +kernel
theorem dX11_readCond_104 : decode cX11_readCond 104 = .ok (.ifCond .ne 33, 3) := by decide +kernel
theorem dX11_readCond_107 : decode cX11_readCond 107 = .ok (.aload_n 0, 1) := by decide +kernel
theorem dX11_readCond_108 : decode cX11_readCond 108 = .ok (.getfield 13, 3) := by decide +kernel
theorem dX11_readCond_111 : decode cX11_readCond 111 = .ok (.bipush 72, 2) := by decide +kernel
theorem dX11_readCond_113 : decode cX11_readCond 113 = .ok (.iload_n 1, 1) := by decide +kernel
theorem dX11_readCond_114 : decode cX11_readCond 114 = .ok (.iadd, 1) := by decide +kernel
theorem dX11_readCond_115 : decode cX11_readCond 115 = .ok (.iload_n 2, 1) := by decide +kernel
theorem dX11_readCond_116 : decode cX11_readCond 116 = .ok (.iadd, 1) := by decide +kernel
theorem dX11_readCond_117 : decode cX11_readCond 117 = .ok (.iload 4, 2) := by decide +kernel
theorem dX11_readCond_119 : decode cX11_readCond 119 = .ok (.iastore, 1) := by decide +kernel
theorem dX11_readCond_120 : decode cX11_readCond 120 = .ok (.aload_n 0, 1) := by decide +kernel
theorem dX11_readCond_121 : decode cX11_readCond 121 = .ok (.getfield 13, 3) := by decide +kernel
theorem dX11_readCond_124 : decode cX11_readCond 124 = .ok (.sipush 147, 3) := by decide +kernel
theorem dX11_readCond_127 : decode cX11_readCond 127 = .ok (.iload_n 1, 1) := by decide +kernel
theorem dX11_readCond_128 : decode cX11_readCond 128 = .ok (.iadd, 1) := by decide +kernel
theorem dX11_readCond_129 : decode cX11_readCond 129 = .ok (.iload_n 2, 1) := by decide +kernel
theorem dX11_readCond_130 : decode cX11_readCond 130 = .ok (.iadd, 1) := by decide +kernel
theorem dX11_readCond_131 : decode cX11_readCond 131 = .ok (.iload 5, 2) := by decide +kernel
theorem dX11_readCond_133 : decode cX11_readCond 133 = .ok (.iastore, 1) := by decide +kernel
theorem dX11_readCond_134 : decode cX11_readCond 134 = .ok (.iinc 2 1, 3) := by decide +kernel
theorem dX11_readCond_137 : decode cX11_readCond 137 = .ok (.aload_n 0, 1) := by decide +kernel
theorem dX11_readCond_138 : decode cX11_readCond 138 = .ok (.getfield 62, 3) := by decide +kernel
theorem dX11_readCond_141 : decode cX11_readCond 141 = .ok (.ifCond .ne 15, 3) := by decide +kernel
theorem dX11_readCond_144 : decode cX11_readCond 144 = .ok (.aload_n 0, 1) := by decide +kernel
theorem dX11_readCond_145 : decode cX11_readCond 145 = .ok (.getfield 82, 3) := by decide +kernel
theorem dX11_readCond_148 : decode cX11_readCond 148 = .ok (.iconst 5, 1) := by decide +kernel
theorem dX11_readCond_149 : decode cX11_readCond 149 = .ok (.if_icmp .ne 7, 3) := by decide +kernel
theorem dX11_readCond_152 : decode cX11_readCond 152 = .ok (.iconst 1, 1) := by decide +kernel
theorem dX11_readCond_153 : decode cX11_readCond 153 = .ok (.goto 4, 3) := by decide +kernel
theorem dX11_readCond_156 : decode cX11_readCond 156 = .ok (.iconst 0, 1) := by decide +kernel
theorem dX11_readCond_157 : decode cX11_readCond 157 = .ok (.istore_n 3, 1) := by decide +kernel
theorem dX11_readCond_158 : decode cX11_readCond 158 = .ok (.iload_n 3, 1) := by decide +kernel
theorem dX11_readCond_159 : decode cX11_readCond 159 = .ok (.ifCond .eq 22, 3) := by decide +kernel
theorem dX11_readCond_162 : decode cX11_readCond 162 = .ok (.aload_n 0, 1) := by decide +kernel
theorem dX11_readCond_163 : decode cX11_readCond 163 = .ok (.iload_n 2, 1) := by decide +kernel
theorem dX11_readCond_164 : decode cX11_readCond 164 = .ok (.iconst 3, 1) := by decide +kernel
theorem dX11_readCond_165 : decode cX11_readCond 165 = .ok (.if_icmp .ge 7, 3) := by decide +kernel
theorem dX11_readCond_168 : decode cX11_readCond 168 = .ok (.iconst 1, 1) := by decide +kernel
theorem dX11_readCond_169 : decode cX11_readCond 169 = .ok (.goto 4, 3) := by decide +kernel
theorem dX11_readCond_172 : decode cX11_readCond 172 = .ok (.iconst 0, 1) := by decide +kernel
theorem dX11_readCond_173 : decode cX11_readCond 173 = .ok (.iconst 5, 1) := by decide +kernel
theorem dX11_readCond_174 : decode cX11_readCond 174 = .ok (.invokevirtual 96, 3) := by decide +kernel
theorem dX11_readCond_177 : decode cX11_readCond 177 = .ok (.aload_n 0, 1) := by decide +kernel
theorem dX11_readCond_178 : decode cX11_readCond 178 = .ok (.invokevirtual 100, 3) := by decide +kernel
theorem dX11_readCond_181 : decode cX11_readCond 181 = .ok (.goto (-177), 3) := by decide +kernel
theorem dX11_readCond_184 : decode cX11_readCond 184 = .ok (.iload_n 2, 1) := by decide +kernel
theorem dX11_readCond_185 : decode cX11_readCond 185 = .ok (.ireturn, 1) := by decide +kernel
theorem dX11_readBranch_0 : decode cX11_readBranch 0 = .ok (.aload_n 0, 1) := by decide +kernel
theorem dX11_readBranch_1 : decode cX11_readBranch 1 = .ok (.getfield 13, 3) := by decide +kernel
theorem dX11_readBranch_4 : decode cX11_readBranch 4 = .ok (.iconst 0, 1) := by decide +kernel
theorem dX11_readBranch_5 : decode cX11_readBranch 5 = .ok (.iload_n 1, 1) := by decide +kernel
theorem dX11_readBranch_6 : decode cX11_readBranch 6 = .ok (.iadd, 1) := by decide +kernel
theorem dX11_readBranch_7 : decode cX11_readBranch 7 = .ok (.aload_n 0, 1) := by decide +kernel
theorem dX11_readBranch_8 : decode cX11_readBranch 8 = .ok (.iconst 3, 1) := by decide +kernel
theorem dX11_readBranch_9 : decode cX11_readBranch 9 = .ok (.iload_n 1, 1) := by decide +kernel
theorem dX11_readBranch_10 : decode cX11_readBranch 10 = .ok (.imul, 1) := by decide +kernel
theorem dX11_readBranch_11 : decode cX11_readBranch 11 = .ok (.invokevirtual 111, 3) := by decide +kernel
theorem dX11_readBranch_14 : decode cX11_readBranch 14 = .ok (.iastore, 1) := by decide +kernel
theorem dX11_readBranch_15 : decode cX11_readBranch 15 = .ok (.aload_n 0, 1) := by decide +kernel
theorem dX11_readBranch_16 : decode cX11_readBranch 16 = .ok (.getfield 13, 3) := by decide +kernel
theorem dX11_readBranch_19 : decode cX11_readBranch 19 = .ok (.bipush 24, 2) := by decide +kernel
theorem dX11_readBranch_21 : decode cX11_readBranch 21 = .ok (.iload_n 1, 1) := by decide +kernel
theorem dX11_readBranch_22 : decode cX11_readBranch 22 = .ok (.iadd, 1) := by decide +kernel
theorem dX11_readBranch_23 : decode cX11_readBranch 23 = .ok (.iconst 1, 1) := by decide +kernel
theorem dX11_readBranch_24 : decode cX11_readBranch 24 = .ok (.iastore, 1) := by decide +kernel
theorem dX11_readBranch_25 : decode cX11_readBranch 25 = .ok (.aload_n 0, 1) := by decide +kernel
theorem dX11_readBranch_26 : decode cX11_readBranch 26 = .ok (.getfield 62, 3) := by decide +kernel
theorem dX11_readBranch_29 : decode cX11_readBranch 29 = .ok (.ifCond .ne 40, 3) := by decide +kernel
theorem dX11_readBranch_32 : decode cX11_readBranch 32 = .ok (.aload_n 0, 1) := by decide +kernel
theorem dX11_readBranch_33 : decode cX11_readBranch 33 = .ok (.getfield 82, 3) := by decide +kernel
theorem dX11_readBranch_36 : decode cX11_readBranch 36 = .ok (.iconst 1, 1) := by decide +kernel
theorem dX11_readBranch_37 : decode cX11_readBranch 37 = .ok (.if_icmp .ne 32, 3) := by decide +kernel
theorem dX11_readBranch_40 : decode cX11_readBranch 40 = .ok (.aload_n 0, 1) := by decide +kernel
theorem dX11_readBranch_41 : decode cX11_readBranch 41 = .ok (.invokevirtual 114, 3) := by decide +kernel
theorem dX11_readBranch_44 : decode cX11_readBranch 44 = .ok (.bipush 30, 2) := by decide +kernel
theorem dX11_readBranch_46 : decode cX11_readBranch 46 = .ok (.if_icmp .ne 23, 3) := by decide +kernel
theorem dX11_readBranch_49 : decode cX11_readBranch 49 = .ok (.aload_n 0, 1) := by decide +kernel
theorem dX11_readBranch_50 : decode cX11_readBranch 50 = .ok (.invokevirtual 100, 3) := by decide +kernel
theorem dX11_readBranch_53 : decode cX11_readBranch 53 = .ok (.aload_n 0, 1) := by decide +kernel
theorem dX11_readBranch_54 : decode cX11_readBranch 54 = .ok (.getfield 13, 3) := by decide +kernel
theorem dX11_readBranch_57 : decode cX11_readBranch 57 = .ok (.bipush 24, 2) := by decide +kernel
theorem dX11_readBranch_59 : decode cX11_readBranch 59 = .ok (.iload_n 1, 1) := by decide +kernel
theorem dX11_readBranch_60 : decode cX11_readBranch 60 = .ok (.iadd, 1) := by decide +kernel
theorem dX11_readBranch_61 : decode cX11_readBranch 61 = .ok (.aload_n 0, 1) := by decide +kernel
theorem dX11_readBranch_62 : decode cX11_readBranch 62 = .ok (.iconst 1, 1) := by decide +kernel
theorem dX11_readBranch_63 : decode cX11_readBranch 63 = .ok (.bipush 99, 2) := by decide +kernel
theorem dX11_readBranch_65 : decode cX11_readBranch 65 = .ok (.invokevirtual 107, 3) := by decide +kernel
theorem dX11_readBranch_68 : decode cX11_readBranch 68 = .ok (.iastore, 1) := by decide +kernel
theorem dX11_readBranch_69 : decode cX11_readBranch 69 = .ok (.aload_n 0, 1) := by decide +kernel
theorem dX11_readBranch_70 : decode cX11_readBranch 70 = .ok (.getfield 62, 3) := by decide +kernel
theorem dX11_readBranch_73 : decode cX11_readBranch 73 = .ok (.ifCond .ne 30, 3) := by decide +kernel
theorem dX11_readBranch_76 : decode cX11_readBranch 76 = .ok (.aload_n 0, 1) := by decide +kernel
theorem dX11_readBranch_77 : decode cX11_readBranch 77 = .ok (.aload_n 0, 1) := by decide +kernel
theorem dX11_readBranch_78 : decode cX11_readBranch 78 = .ok (.getfield 82, 3) := by decide +kernel
theorem dX11_readBranch_81 : decode cX11_readBranch 81 = .ok (.iconst 1, 1) := by decide +kernel
theorem dX11_readBranch_82 : decode cX11_readBranch 82 = .ok (.if_icmp .ne 16, 3) := by decide +kernel
theorem dX11_readBranch_85 : decode cX11_readBranch 85 = .ok (.aload_n 0, 1) := by decide +kernel
theorem dX11_readBranch_86 : decode cX11_readBranch 86 = .ok (.invokevirtual 114, 3) := by decide +kernel
theorem dX11_readBranch_89 : decode cX11_readBranch 89 = .ok (.bipush 31, 2) := by decide +kernel
theorem dX11_readBranch_91 : decode cX11_readBranch 91 = .ok (.if_icmp .ne 7, 3) := by decide +kernel
theorem dX11_readBranch_94 : decode cX11_readBranch 94 = .ok (.iconst 1, 1) := by decide +kernel
theorem dX11_readBranch_95 : decode cX11_readBranch 95 = .ok (.goto 4, 3) := by decide +kernel
theorem dX11_readBranch_98 : decode cX11_readBranch 98 = .ok (.iconst 0, 1) := by decide +kernel
theorem dX11_readBranch_99 : decode cX11_readBranch 99 = .ok (.iconst 2, 1) := by decide +kernel
theorem dX11_readBranch_100 : decode cX11_readBranch 100 = .ok (.invokevirtual 96, 3) := by decide +kernel
theorem dX11_readBranch_103 : decode cX11_readBranch 103 = .ok (.aload_n 0, 1) := by decide +kernel
theorem dX11_readBranch_104 : decode cX11_readBranch 104 = .ok (.invokevirtual 100, 3) := by decide +kernel
theorem dX11_readBranch_107 : decode cX11_readBranch 107 = .ok (.aload_n 0, 1) := by decide +kernel
theorem dX11_readBranch_108 : decode cX11_readBranch 108 = .ok (.getfield 62, 3) := by decide +kernel
theorem dX11_readBranch_111 : decode cX11_readBranch 111 = .ok (.ifCond .ne 48, 3) := by decide +kernel
theorem dX11_readBranch_114 : decode cX11_readBranch 114 = .ok (.aload_n 0, 1) := by decide +kernel
theorem dX11_readBranch_115 : decode cX11_readBranch 115 = .ok (.getfield 82, 3) := by decide +kernel
theorem dX11_readBranch_118 : decode cX11_readBranch 118 = .ok (.iconst 1, 1) := by decide +kernel
theorem dX11_readBranch_119 : decode cX11_readBranch 119 = .ok (.if_icmp .ne 40, 3) := by decide +kernel
theorem dX11_readBranch_122 : decode cX11_readBranch 122 = .ok (.aload_n 0, 1) := by decide +kernel
theorem dX11_readBranch_123 : decode cX11_readBranch 123 = .ok (.aload_n 0, 1) := by decide +kernel
theorem dX11_readBranch_124 : decode cX11_readBranch 124 = .ok (.invokevirtual 114, 3) := by decide +kernel
theorem dX11_readBranch_127 : decode cX11_readBranch 127 = .ok (.bipush 32, 2) := by decide +kernel
theorem dX11_readBranch_129 : decode cX11_readBranch 129 = .ok (.if_icmp .ne 7, 3) := by decide +kernel
theorem dX11_readBranch_132 : decode cX11_readBranch 132 = .ok (.iconst 1, 1) := by decide +kernel
theorem dX11_readBranch_133 : decode cX11_readBranch 133 = .ok (.goto 4, 3) := by decide +kernel
theorem dX11_readBranch_136 : decode cX11_readBranch 136 = .ok (.iconst 0, 1) := by decide +kernel
theorem dX11_readBranch_137 : decode cX11_readBranch 137 = .ok (.iconst 2, 1) := by decide +kernel
theorem dX11_readBranch_138 : decode cX11_readBranch 138 = .ok (.invokevirtual 96, 3) := by decide +kernel
theorem dX11_readBranch_141 : decode cX11_readBranch 141 = .ok (.aload_n 0, 1) := by decide +kernel
theorem dX11_readBranch_142 : decode cX11_readBranch 142 = .ok (.getfield 13, 3) := by decide +kernel
theorem dX11_readBranch_145 : decode cX11_readBranch 145 = .ok (.bipush 48, 2) := by decide +kernel
theorem dX11_readBranch_147 : decode cX11_readBranch 147 = .ok (.iload_n 1, 1) := by decide +kernel
theorem dX11_readBranch_148 : decode cX11_readBranch 148 = .ok (.iadd, 1) := by decide +kernel
theorem dX11_readBranch_149 : decode cX11_readBranch 149 = .ok (.bipush 8, 2) := by decide +kernel
theorem dX11_readBranch_151 : decode cX11_readBranch 151 = .ok (.iastore, 1) := by decide +kernel
theorem dX11_readBranch_152 : decode cX11_readBranch 152 = .ok (.aload_n 0, 1) := by decide +kernel
theorem dX11_readBranch_153 : decode cX11_readBranch 153 = .ok (.invokevirtual 100, 3) := by decide +kernel
theorem dX11_readBranch_156 : decode cX11_readBranch 156 = .ok (.goto 19, 3) := by decide +kernel
theorem dX11_readBranch_159 : decode cX11_readBranch 159 = .ok (.aload_n 0, 1) := by decide +kernel
theorem dX11_readBranch_160 : decode cX11_readBranch 160 = .ok (.getfield 13, 3) := by decide +kernel
theorem dX11_readBranch_163 : decode cX11_readBranch 163 = .ok (.bipush 48, 2) := by decide +kernel
theorem dX11_readBranch_165 : decode cX11_readBranch 165 = .ok (.iload_n 1, 1) := by decide +kernel
theorem dX11_readBranch_166 : decode cX11_readBranch 166 = .ok (.iadd, 1) := by decide +kernel
theorem dX11_readBranch_167 : decode cX11_readBranch 167 = .ok (.aload_n 0, 1) := by decide +kernel
theorem dX11_readBranch_168 : decode cX11_readBranch 168 = .ok (.iconst 0, 1) := by decide +kernel
theorem dX11_readBranch_169 : decode cX11_readBranch 169 = .ok (.bipush 7, 2) := by decide +kernel
theorem dX11_readBranch_171 : decode cX11_readBranch 171 = .ok (.invokevirtual 107, 3) := by decide +kernel
theorem dX11_readBranch_174 : decode cX11_readBranch 174 = .ok (.iastore, 1) := by decide +kernel
theorem dX11_readBranch_175 : decode cX11_readBranch 175 = .ok (.return_, 1) := by decide +kernel
theorem dX11_readState_0 : decode cX11_readState 0 = .ok (.aload_n 0, 1) := by decide +kernel
theorem dX11_readState_1 : decode cX11_readState 1 = .ok (.getfield 13, 3) := by decide +kernel
theorem dX11_readState_4 : decode cX11_readState 4 = .ok (.sipush 230, 3) := by decide +kernel
theorem dX11_readState_7 : decode cX11_readState 7 = .ok (.iaload, 1) := by decide +kernel
theorem dX11_readState_8 : decode cX11_readState 8 = .ok (.istore_n 1, 1) := by decide +kernel
theorem dX11_readState_9 : decode cX11_readState 9 = .ok (.iconst 0, 1) := by decide +kernel
theorem dX11_readState_10 : decode cX11_readState 10 = .ok (.istore_n 2, 1) := by decide +kernel
theorem dX11_readState_11 : decode cX11_readState 11 = .ok (.iconst 1, 1) := by decide +kernel
theorem dX11_readState_12 : decode cX11_readState 12 = .ok (.istore_n 3, 1) := by decide +kernel
theorem dX11_readState_13 : decode cX11_readState 13 = .ok (.aload_n 0, 1) := by decide +kernel
theorem dX11_readState_14 : decode cX11_readState 14 = .ok (.getfield 62, 3) := by decide +kernel
theorem dX11_readState_17 : decode cX11_readState 17 = .ok (.ifCond .ne 66, 3) := by decide +kernel
theorem dX11_readState_20 : decode cX11_readState 20 = .ok (.iload_n 3, 1) := by decide +kernel
theorem dX11_readState_21 : decode cX11_readState 21 = .ok (.ifCond .eq 62, 3) := by decide +kernel
theorem dX11_readState_24 : decode cX11_readState 24 = .ok (.aload_n 0, 1) := by decide +kernel
theorem dX11_readState_25 : decode cX11_readState 25 = .ok (.iconst 3, 1) := by decide +kernel
theorem dX11_readState_26 : decode cX11_readState 26 = .ok (.iload_n 1, 1) := by decide +kernel
theorem dX11_readState_27 : decode cX11_readState 27 = .ok (.imul, 1) := by decide +kernel
theorem dX11_readState_28 : decode cX11_readState 28 = .ok (.iload_n 2, 1) := by decide +kernel
theorem dX11_readState_29 : decode cX11_readState 29 = .ok (.iadd, 1) := by decide +kernel
theorem dX11_readState_30 : decode cX11_readState 30 = .ok (.invokevirtual 117, 3) := by decide +kernel
theorem dX11_readState_33 : decode cX11_readState 33 = .ok (.iinc 2 1, 3) := by decide +kernel
theorem dX11_readState_36 : decode cX11_readState 36 = .ok (.aload_n 0, 1) := by decide +kernel
theorem dX11_readState_37 : decode cX11_readState 37 = .ok (.getfield 62, 3) := by decide +kernel
theorem dX11_readState_40 : decode cX11_readState 40 = .ok (.ifCond .ne 15, 3) := by decide +kernel
theorem dX11_readState_43 : decode cX11_readState 43 = .ok (.aload_n 0, 1) := by decide +kernel
theorem dX11_readState_44 : decode cX11_readState 44 = .ok (.getfield 82, 3) := by decide +kernel
theorem dX11_readState_47 : decode cX11_readState 47 = .ok (.iconst 4, 1) := by decide +kernel
theorem dX11_readState_48 : decode cX11_readState 48 = .ok (.if_icmp .ne 7, 3) := by decide +kernel
theorem dX11_readState_51 : decode cX11_readState 51 = .ok (.iconst 1, 1) := by decide +kernel
theorem dX11_readState_52 : decode cX11_readState 52 = .ok (.goto 4, 3) := by decide +kernel
theorem dX11_readState_55 : decode cX11_readState 55 = .ok (.iconst 0, 1) := by decide +kernel
theorem dX11_readState_56 : decode cX11_readState 56 = .ok (.istore_n 3, 1) := by decide +kernel
theorem dX11_readState_57 : decode cX11_readState 57 = .ok (.iload_n 3, 1) := by decide +kernel
theorem dX11_readState_58 : decode cX11_readState 58 = .ok (.ifCond .eq (-45), 3) := by decide +kernel
theorem dX11_readState_61 : decode cX11_readState 61 = .ok (.aload_n 0, 1) := by decide +kernel
theorem dX11_readState_62 : decode cX11_readState 62 = .ok (.iload_n 2, 1) := by decide +kernel
theorem dX11_readState_63 : decode cX11_readState 63 = .ok (.iconst 3, 1) := by decide +kernel
theorem dX11_readState_64 : decode cX11_readState 64 = .ok (.if_icmp .ge 7, 3) := by decide +kernel
theorem dX11_readState_67 : decode cX11_readState 67 = .ok (.iconst 1, 1) := by decide +kernel
theorem dX11_readState_68 : decode cX11_readState 68 = .ok (.goto 4, 3) := by decide +kernel
theorem dX11_readState_71 : decode cX11_readState 71 = .ok (.iconst 0, 1) := by decide +kernel
theorem dX11_readState_72 : decode cX11_readState 72 = .ok (.iconst 5, 1) := by decide +kernel
theorem dX11_readState_73 : decode cX11_readState 73 = .ok (.invokevirtual 96, 3) := by decide +kernel
theorem dX11_readState_76 : decode cX11_readState 76 = .ok (.aload_n 0, 1) := by decide +kernel
theorem dX11_readState_77 : decode cX11_readState 77 = .ok (.invokevirtual 100, 3) := by decide +kernel
theorem dX11_readState_80 : decode cX11_readState 80 = .ok (.goto (-67), 3) := by decide +kernel
theorem dX11_readState_83 : decode cX11_readState 83 = .ok (.aload_n 0, 1) := by decide +kernel
theorem dX11_readState_84 : decode cX11_readState 84 = .ok (.getfield 13, 3) := by decide +kernel
theorem dX11_readState_87 : decode cX11_readState 87 = .ok (.sipush 222, 3) := by decide +kernel
theorem dX11_readState_90 : decode cX11_readState 90 = .ok (.iload_n 1, 1) := by decide +kernel
theorem dX11_readState_91 : decode cX11_readState 91 = .ok (.iadd, 1) := by decide +kernel
theorem dX11_readState_92 : decode cX11_readState 92 = .ok (.iload_n 2, 1) := by decide +kernel
theorem dX11_readState_93 : decode cX11_readState 93 = .ok (.iastore, 1) := by decide +kernel
theorem dX11_readState_94 : decode cX11_readState 94 = .ok (.aload_n 0, 1) := by decide +kernel
theorem dX11_readState_95 : decode cX11_readState 95 = .ok (.getfield 13, 3) := by decide +kernel
theorem dX11_readState_98 : decode cX11_readState 98 = .ok (.sipush 230, 3) := by decide +kernel
theorem dX11_readState_101 : decode cX11_readState 101 = .ok (.iload_n 1, 1) := by decide +kernel
theorem dX11_readState_102 : decode cX11_readState 102 = .ok (.iconst 1, 1) := by decide +kernel
theorem dX11_readState_103 : decode cX11_readState 103 = .ok (.iadd, 1) := by decide +kernel
theorem dX11_readState_104 : decode cX11_readState 104 = .ok (.iastore, 1) := by decide +kernel
theorem dX11_readState_105 : decode cX11_readState 105 = .ok (.return_, 1) := by decide +kernel
theorem dX11_readLine_0 : decode cX11_readLine 0 = .ok (.aload_n 0, 1) := by decide +kernel
theorem dX11_readLine_1 : decode cX11_readLine 1 = .ok (.getfield 82, 3) := by decide +kernel
theorem dX11_readLine_4 : decode cX11_readLine 4 = .ok (.iconst 1, 1) := by decide +kernel
theorem dX11_readLine_5 : decode cX11_readLine 5 = .ok (.if_icmp .ne 10, 3) := by decide +kernel
theorem dX11_readLine_8 : decode cX11_readLine 8 = .ok (.aload_n 0, 1) := by decide +kernel
theorem dX11_readLine_9 : decode cX11_readLine 9 = .ok (.invokevirtual 121, 3) := by decide +kernel
theorem dX11_readLine_12 : decode cX11_readLine 12 = .ok (.goto 5, 3) := by decide +kernel
theorem dX11_readLine_15 : decode cX11_readLine 15 = .ok (.bipush (-4), 2) := by decide +kernel
theorem dX11_readLine_17 : decode cX11_readLine 17 = .ok (.istore_n 1, 1) := by decide +kernel
theorem dX11_readLine_18 : decode cX11_readLine 18 = .ok (.aload_n 0, 1) := by decide +kernel
theorem dX11_readLine_19 : decode cX11_readLine 19 = .ok (.iload_n 1, 1) := by decide +kernel
theorem dX11_readLine_20 : decode cX11_readLine 20 = .ok (.bipush (-4), 2) := by decide +kernel
theorem dX11_readLine_22 : decode cX11_readLine 22 = .ok (.if_icmp .eq 7, 3) := by decide +kernel
theorem dX11_readLine_25 : decode cX11_readLine 25 = .ok (.iconst 1, 1) := by decide +kernel
theorem dX11_readLine_26 : decode cX11_readLine 26 = .ok (.goto 4, 3) := by decide +kernel
theorem dX11_readLine_29 : decode cX11_readLine 29 = .ok (.iconst 0, 1) := by decide +kernel
theorem dX11_readLine_30 : decode cX11_readLine 30 = .ok (.iconst 2, 1) := by decide +kernel
theorem dX11_readLine_31 : decode cX11_readLine 31 = .ok (.invokevirtual 96, 3) := by decide +kernel
theorem dX11_readLine_34 : decode cX11_readLine 34 = .ok (.aload_n 0, 1) := by decide +kernel
theorem dX11_readLine_35 : decode cX11_readLine 35 = .ok (.iload_n 1, 1) := by decide +kernel
theorem dX11_readLine_36 : decode cX11_readLine 36 = .ok (.bipush 20, 2) := by decide +kernel
theorem dX11_readLine_38 : decode cX11_readLine 38 = .ok (.if_icmp .ne 16, 3) := by decide +kernel
theorem dX11_readLine_41 : decode cX11_readLine 41 = .ok (.aload_n 0, 1) := by decide +kernel
theorem dX11_readLine_42 : decode cX11_readLine 42 = .ok (.getfield 13, 3) := by decide +kernel
theorem dX11_readLine_45 : decode cX11_readLine 45 = .ok (.sipush 230, 3) := by decide +kernel
theorem dX11_readLine_48 : decode cX11_readLine 48 = .ok (.iaload, 1) := by decide +kernel
theorem dX11_readLine_49 : decode cX11_readLine 49 = .ok (.bipush 8, 2) := by decide +kernel
theorem dX11_readLine_51 : decode cX11_readLine 51 = .ok (.if_icmp .ge 7, 3) := by decide +kernel
theorem dX11_readLine_54 : decode cX11_readLine 54 = .ok (.iconst 1, 1) := by decide +kernel
theorem dX11_readLine_55 : decode cX11_readLine 55 = .ok (.goto 4, 3) := by decide +kernel
theorem dX11_readLine_58 : decode cX11_readLine 58 = .ok (.iconst 0, 1) := by decide +kernel
theorem dX11_readLine_59 : decode cX11_readLine 59 = .ok (.iconst 5, 1) := by decide +kernel
theorem dX11_readLine_60 : decode cX11_readLine 60 = .ok (.invokevirtual 96, 3) := by decide +kernel
theorem dX11_readLine_63 : decode cX11_readLine 63 = .ok (.aload_n 0, 1) := by decide +kernel
theorem dX11_readLine_64 : decode cX11_readLine 64 = .ok (.getfield 62, 3) := by decide +kernel
theorem dX11_readLine_67 : decode cX11_readLine 67 = .ok (.ifCond .ne 42, 3) := by decide +kernel
theorem dX11_readLine_70 : decode cX11_readLine 70 = .ok (.iload_n 1, 1) := by decide +kernel
theorem dX11_readLine_71 : decode cX11_readLine 71 = .ok (.bipush 20, 2) := by decide +kernel
theorem dX11_readLine_73 : decode cX11_readLine 73 = .ok (.if_icmp .eq 36, 3) := by decide +kernel
theorem dX11_readLine_76 : decode cX11_readLine 76 = .ok (.aload_n 0, 1) := by decide +kernel
theorem dX11_readLine_77 : decode cX11_readLine 77 = .ok (.aload_n 0, 1) := by decide +kernel
theorem dX11_readLine_78 : decode cX11_readLine 78 = .ok (.getfield 49, 3) := by decide +kernel
theorem dX11_readLine_81 : decode cX11_readLine 81 = .ok (.iload_n 1, 1) := by decide +kernel
theorem dX11_readLine_82 : decode cX11_readLine 82 = .ok (.ishr, 1) := by decide +kernel
theorem dX11_readLine_83 : decode cX11_readLine 83 = .ok (.iconst 1, 1) := by decide +kernel
theorem dX11_readLine_84 : decode cX11_readLine 84 = .ok (.iand, 1) := by decide +kernel
theorem dX11_readLine_85 : decode cX11_readLine 85 = .ok (.ifCond .ne 7, 3) := by decide +kernel
theorem dX11_readLine_88 : decode cX11_readLine 88 = .ok (.iconst 1, 1) := by decide +kernel
theorem dX11_readLine_89 : decode cX11_readLine 89 = .ok (.goto 4, 3) := by decide +kernel
theorem dX11_readLine_92 : decode cX11_readLine 92 = .ok (.iconst 0, 1) := by decide +kernel
theorem dX11_readLine_93 : decode cX11_readLine 93 = .ok (.iconst 4, 1) := by decide +kernel
theorem dX11_readLine_94 : decode cX11_readLine 94 = .ok (.invokevirtual 96, 3) := by decide +kernel
theorem dX11_readLine_97 : decode cX11_readLine 97 = .ok (.aload_n 0, 1) := by decide +kernel
theorem dX11_readLine_98 : decode cX11_readLine 98 = .ok (.dup, 1) := by decide +kernel
theorem dX11_readLine_99 : decode cX11_readLine 99 = .ok (.getfield 49, 3) := by decide +kernel
theorem dX11_readLine_102 : decode cX11_readLine 102 = .ok (.iconst 1, 1) := by decide +kernel
theorem dX11_readLine_103 : decode cX11_readLine 103 = .ok (.iload_n 1, 1) := by decide +kernel
theorem dX11_readLine_104 : decode cX11_readLine 104 = .ok (.ishl, 1) := by decide +kernel
theorem dX11_readLine_105 : decode cX11_readLine 105 = .ok (.ior, 1) := by decide +kernel
theorem dX11_readLine_106 : decode cX11_readLine 106 = .ok (.putfield 49, 3) := by decide +kernel
theorem dX11_readLine_109 : decode cX11_readLine 109 = .ok (.aload_n 0, 1) := by decide +kernel
theorem dX11_readLine_110 : decode cX11_readLine 110 = .ok (.invokevirtual 100, 3) := by decide +kernel
theorem dX11_readLine_113 : decode cX11_readLine 113 = .ok (.aload_n 0, 1) := by decide +kernel
theorem dX11_readLine_114 : decode cX11_readLine 114 = .ok (.getfield 62, 3) := by decide +kernel
theorem dX11_readLine_117 : decode cX11_readLine 117 = .ok (.ifCond .le 4, 3) := by decide +kernel
theorem dX11_readLine_120 : decode cX11_readLine 120 = .ok (.return_, 1) := by decide +kernel
theorem dX11_readLine_121 : decode cX11_readLine 121 = .ok (.iload_n 1, 1) := by decide +kernel
theorem dX11_readLine_122 : decode cX11_readLine 122 = .ok (.bipush 20, 2) := by decide +kernel
theorem dX11_readLine_124 : decode cX11_readLine 124 = .ok (.if_icmp .ne 10, 3) := by decide +kernel
theorem dX11_readLine_127 : decode cX11_readLine 127 = .ok (.aload_n 0, 1) := by decide +kernel
theorem dX11_readLine_128 : decode cX11_readLine 128 = .ok (.invokevirtual 124, 3) := by decide +kernel
theorem dX11_readLine_131 : decode cX11_readLine 131 = .ok (.goto 67, 3) := by decide +kernel
theorem dX11_readLine_134 : decode cX11_readLine 134 = .ok (.iload_n 1, 1) := by decide +kernel
theorem dX11_readLine_135 : decode cX11_readLine 135 = .ok (.bipush 21, 2) := by decide +kernel
theorem dX11_readLine_137 : decode cX11_readLine 137 = .ok (.if_icmp .ne 20, 3) := by decide +kernel
theorem dX11_readLine_140 : decode cX11_readLine 140 = .ok (.aload_n 0, 1) := by decide +kernel
theorem dX11_readLine_141 : decode cX11_readLine 141 = .ok (.getfield 13, 3) := by decide +kernel
theorem dX11_readLine_144 : decode cX11_readLine 144 = .ok (.sipush 231, 3) := by decide +kernel
theorem dX11_readLine_147 : decode cX11_readLine 147 = .ok (.aload_n 0, 1) := by decide +kernel
theorem dX11_readLine_148 : decode cX11_readLine 148 = .ok (.bipush 72, 2) := by decide +kernel
theorem dX11_readLine_150 : decode cX11_readLine 150 = .ok (.invokevirtual 111, 3) := by decide +kernel
theorem dX11_readLine_153 : decode cX11_readLine 153 = .ok (.iastore, 1) := by decide +kernel
theorem dX11_readLine_154 : decode cX11_readLine 154 = .ok (.goto 44, 3) := by decide +kernel
theorem dX11_readLine_157 : decode cX11_readLine 157 = .ok (.iload_n 1, 1) := by decide +kernel
theorem dX11_readLine_158 : decode cX11_readLine 158 = .ok (.bipush 22, 2) := by decide +kernel
theorem dX11_readLine_160 : decode cX11_readLine 160 = .ok (.if_icmp .ne 22, 3) := by decide +kernel
theorem dX11_readLine_163 : decode cX11_readLine 163 = .ok (.aload_n 0, 1) := by decide +kernel
theorem dX11_readLine_164 : decode cX11_readLine 164 = .ok (.getfield 13, 3) := by decide +kernel
theorem dX11_readLine_167 : decode cX11_readLine 167 = .ok (.sipush 232, 3) := by decide +kernel
theorem dX11_readLine_170 : decode cX11_readLine 170 = .ok (.aload_n 0, 1) := by decide +kernel
theorem dX11_readLine_171 : decode cX11_readLine 171 = .ok (.iconst 1, 1) := by decide +kernel
theorem dX11_readLine_172 : decode cX11_readLine 172 = .ok (.sipush 400, 3) := by decide +kernel
theorem dX11_readLine_175 : decode cX11_readLine 175 = .ok (.invokevirtual 107, 3) := by decide +kernel
theorem dX11_readLine_178 : decode cX11_readLine 178 = .ok (.iastore, 1) := by decide +kernel
theorem dX11_readLine_179 : decode cX11_readLine 179 = .ok (.goto 19, 3) := by decide +kernel
theorem dX11_readLine_182 : decode cX11_readLine 182 = .ok (.aload_n 0, 1) := by decide +kernel
theorem dX11_readLine_183 : decode cX11_readLine 183 = .ok (.getfield 13, 3) := by decide +kernel
theorem dX11_readLine_186 : decode cX11_readLine 186 = .ok (.sipush 233, 3) := by decide +kernel
theorem dX11_readLine_189 : decode cX11_readLine 189 = .ok (.aload_n 0, 1) := by decide +kernel
theorem dX11_readLine_190 : decode cX11_readLine 190 = .ok (.iconst 0, 1) := by decide +kernel
theorem dX11_readLine_191 : decode cX11_readLine 191 = .ok (.sipush 399, 3) := by decide +kernel
theorem dX11_readLine_194 : decode cX11_readLine 194 = .ok (.invokevirtual 107, 3) := by decide +kernel
theorem dX11_readLine_197 : decode cX11_readLine 197 = .ok (.iastore, 1) := by decide +kernel
theorem dX11_readLine_198 : decode cX11_readLine 198 = .ok (.aload_n 0, 1) := by decide +kernel
theorem dX11_readLine_199 : decode cX11_readLine 199 = .ok (.getfield 62, 3) := by decide +kernel
theorem dX11_readLine_202 : decode cX11_readLine 202 = .ok (.ifCond .ne 21, 3) := by decide +kernel
theorem dX11_readLine_205 : decode cX11_readLine 205 = .ok (.aload_n 0, 1) := by decide +kernel
theorem dX11_readLine_206 : decode cX11_readLine 206 = .ok (.aload_n 0, 1) := by decide +kernel
theorem dX11_readLine_207 : decode cX11_readLine 207 = .ok (.getfield 82, 3) := by decide +kernel
theorem dX11_readLine_210 : decode cX11_readLine 210 = .ok (.iconst 3, 1) := by decide +kernel
theorem dX11_readLine_211 : decode cX11_readLine 211 = .ok (.if_icmp .ne 7, 3) := by decide +kernel
theorem dX11_readLine_214 : decode cX11_readLine 214 = .ok (.iconst 1, 1) := by decide +kernel
theorem dX11_readLine_215 : decode cX11_readLine 215 = .ok (.goto 4, 3) := by decide +kernel
theorem dX11_readLine_218 : decode cX11_readLine 218 = .ok (.iconst 0, 1) := by decide +kernel
theorem dX11_readLine_219 : decode cX11_readLine 219 = .ok (.iconst 2, 1) := by decide +kernel
theorem dX11_readLine_220 : decode cX11_readLine 220 = .ok (.invokevirtual 96, 3) := by decide +kernel
theorem dX11_readLine_223 : decode cX11_readLine 223 = .ok (.aload_n 0, 1) := by decide +kernel
theorem dX11_readLine_224 : decode cX11_readLine 224 = .ok (.invokevirtual 100, 3) := by decide +kernel
theorem dX11_readLine_227 : decode cX11_readLine 227 = .ok (.return_, 1) := by decide +kernel
theorem dX11_isWhole_0 : decode cX11_isWhole 0 = .ok (.aload_n 0, 1) := by decide +kernel
theorem dX11_isWhole_1 : decode cX11_isWhole 1 = .ok (.getfield 13, 3) := by decide +kernel
theorem dX11_isWhole_4 : decode cX11_isWhole 4 = .ok (.sipush 233, 3) := by decide +kernel
theorem dX11_isWhole_7 : decode cX11_isWhole 7 = .ok (.iaload, 1) := by decide +kernel
theorem dX11_isWhole_8 : decode cX11_isWhole 8 = .ok (.aload_n 0, 1) := by decide +kernel
theorem dX11_isWhole_9 : decode cX11_isWhole 9 = .ok (.getfield 13, 3) := by decide +kernel
theorem dX11_isWhole_12 : decode cX11_isWhole 12 = .ok (.sipush 232, 3) := by decide +kernel
theorem dX11_isWhole_15 : decode cX11_isWhole 15 = .ok (.iaload, 1) := by decide +kernel
theorem dX11_isWhole_16 : decode cX11_isWhole 16 = .ok (.if_icmp .ge 7, 3) := by decide +kernel
theorem dX11_isWhole_19 : decode cX11_isWhole 19 = .ok (.iconst 1, 1) := by decide +kernel
theorem dX11_isWhole_20 : decode cX11_isWhole 20 = .ok (.goto 4, 3) := by decide +kernel
theorem dX11_isWhole_23 : decode cX11_isWhole 23 = .ok (.iconst 0, 1) := by decide +kernel
theorem dX11_isWhole_24 : decode cX11_isWhole 24 = .ok (.istore_n 1, 1) := by decide +kernel
theorem dX11_isWhole_25 : decode cX11_isWhole 25 = .ok (.iconst 0, 1) := by decide +kernel
theorem dX11_isWhole_26 : decode cX11_isWhole 26 = .ok (.istore_n 2, 1) := by decide +kernel
theorem dX11_isWhole_27 : decode cX11_isWhole 27 = .ok (.iload_n 2, 1) := by decide +kernel
theorem dX11_isWhole_28 : decode cX11_isWhole 28 = .ok (.aload_n 0, 1) := by decide +kernel
theorem dX11_isWhole_29 : decode cX11_isWhole 29 = .ok (.getfield 13, 3) := by decide +kernel
theorem dX11_isWhole_32 : decode cX11_isWhole 32 = .ok (.sipush 230, 3) := by decide +kernel
theorem dX11_isWhole_35 : decode cX11_isWhole 35 = .ok (.iaload, 1) := by decide +kernel
theorem dX11_isWhole_36 : decode cX11_isWhole 36 = .ok (.if_icmp .ge 76, 3) := by decide +kernel
theorem dX11_isWhole_39 : decode cX11_isWhole 39 = .ok (.iconst 0, 1) := by decide +kernel
theorem dX11_isWhole_40 : decode cX11_isWhole 40 = .ok (.istore_n 3, 1) := by decide +kernel
theorem dX11_isWhole_41 : decode cX11_isWhole 41 = .ok (.iload_n 3, 1) := by decide +kernel
theorem dX11_isWhole_42 : decode cX11_isWhole 42 = .ok (.aload_n 0, 1) := by decide +kernel
theorem dX11_isWhole_43 : decode cX11_isWhole 43 = .ok (.getfield 13, 3) := by decide +kernel
theorem dX11_isWhole_46 : decode cX11_isWhole 46 = .ok (.sipush 222, 3) := by decide +kernel
theorem dX11_isWhole_49 : decode cX11_isWhole 49 = .ok (.iload_n 2, 1) := by decide +kernel
theorem dX11_isWhole_50 : decode cX11_isWhole 50 = .ok (.iadd, 1) := by decide +kernel
theorem dX11_isWhole_51 : decode cX11_isWhole 51 = .ok (.iaload, 1) := by decide +kernel
theorem dX11_isWhole_52 : decode cX11_isWhole 52 = .ok (.if_icmp .ge 54, 3) := by decide +kernel
theorem dX11_isWhole_55 : decode cX11_isWhole 55 = .ok (.aload_n 0, 1) := by decide +kernel
theorem dX11_isWhole_56 : decode cX11_isWhole 56 = .ok (.getfield 13, 3) := by decide +kernel
theorem dX11_isWhole_59 : decode cX11_isWhole 59 = .ok (.bipush 48, 2) := by decide +kernel
theorem dX11_isWhole_61 : decode cX11_isWhole 61 = .ok (.iconst 3, 1) := by decide +kernel
theorem dX11_isWhole_62 : decode cX11_isWhole 62 = .ok (.iload_n 2, 1) := by decide +kernel
theorem dX11_isWhole_63 : decode cX11_isWhole 63 = .ok (.imul, 1) := by decide +kernel
theorem dX11_isWhole_64 : decode cX11_isWhole 64 = .ok (.iadd, 1) := by decide +kernel
theorem dX11_isWhole_65 : decode cX11_isWhole 65 = .ok (.iload_n 3, 1) := by decide +kernel
theorem dX11_isWhole_66 : decode cX11_isWhole 66 = .ok (.iadd, 1) := by decide +kernel
theorem dX11_isWhole_67 : decode cX11_isWhole 67 = .ok (.iaload, 1) := by decide +kernel
theorem dX11_isWhole_68 : decode cX11_isWhole 68 = .ok (.istore 4, 2) := by decide +kernel
theorem dX11_isWhole_70 : decode cX11_isWhole 70 = .ok (.iload_n 1, 1) := by decide +kernel
theorem dX11_isWhole_71 : decode cX11_isWhole 71 = .ok (.ifCond .eq 27, 3) := by decide +kernel
theorem dX11_isWhole_74 : decode cX11_isWhole 74 = .ok (.iload 4, 2) := by decide +kernel
theorem dX11_isWhole_76 : decode cX11_isWhole 76 = .ok (.bipush 8, 2) := by decide +kernel
theorem dX11_isWhole_78 : decode cX11_isWhole 78 = .ok (.if_icmp .eq 16, 3) := by decide +kernel
theorem dX11_isWhole_81 : decode cX11_isWhole 81 = .ok (.iload 4, 2) := by decide +kernel
theorem dX11_isWhole_83 : decode cX11_isWhole 83 = .ok (.aload_n 0, 1) := by decide +kernel
theorem dX11_isWhole_84 : decode cX11_isWhole 84 = .ok (.getfield 13, 3) := by decide +kernel
theorem dX11_isWhole_87 : decode cX11_isWhole 87 = .ok (.sipush 230, 3) := by decide +kernel
theorem dX11_isWhole_90 : decode cX11_isWhole 90 = .ok (.iaload, 1) := by decide +kernel
theorem dX11_isWhole_91 : decode cX11_isWhole 91 = .ok (.if_icmp .ge 7, 3) := by decide +kernel
theorem dX11_isWhole_94 : decode cX11_isWhole 94 = .ok (.iconst 1, 1) := by decide +kernel
theorem dX11_isWhole_95 : decode cX11_isWhole 95 = .ok (.goto 4, 3) := by decide +kernel
theorem dX11_isWhole_98 : decode cX11_isWhole 98 = .ok (.iconst 0, 1) := by decide +kernel
theorem dX11_isWhole_99 : decode cX11_isWhole 99 = .ok (.istore_n 1, 1) := by decide +kernel
theorem dX11_isWhole_100 : decode cX11_isWhole 100 = .ok (.iinc 3 1, 3) := by decide +kernel
theorem dX11_isWhole_103 : decode cX11_isWhole 103 = .ok (.goto (-62), 3) := by decide +kernel
theorem dX11_isWhole_106 : decode cX11_isWhole 106 = .ok (.iinc 2 1, 3) := by decide +kernel
theorem dX11_isWhole_109 : decode cX11_isWhole 109 = .ok (.goto (-82), 3) := by decide +kernel
theorem dX11_isWhole_112 : decode cX11_isWhole 112 = .ok (.iload_n 1, 1) := by decide +kernel
theorem dX11_isWhole_113 : decode cX11_isWhole 113 = .ok (.ireturn, 1) := by decide +kernel
theorem dX11_text_0 : decode cX11_text 0 = .ok (.iconst 0, 1) := by decide +kernel
theorem dX11_text_1 : decode cX11_text 1 = .ok (.istore_n 1, 1) := by decide +kernel
theorem dX11_text_2 : decode cX11_text 2 = .ok (.aload_n 0, 1) := by decide +kernel
theorem dX11_text_3 : decode cX11_text 3 = .ok (.iconst 0, 1) := by decide +kernel
theorem dX11_text_4 : decode cX11_text 4 = .ok (.putfield 62, 3) := by decide +kernel
theorem dX11_text_7 : decode cX11_text 7 = .ok (.aload_n 0, 1) := by decide +kernel
theorem dX11_text_8 : decode cX11_text 8 = .ok (.iconst 0, 1) := by decide +kernel
theorem dX11_text_9 : decode cX11_text 9 = .ok (.putfield 71, 3) := by decide +kernel
theorem dX11_text_12 : decode cX11_text 12 = .ok (.aload_n 0, 1) := by decide +kernel
theorem dX11_text_13 : decode cX11_text 13 = .ok (.invokevirtual 43, 3) := by decide +kernel
theorem dX11_text_16 : decode cX11_text 16 = .ok (.aload_n 0, 1) := by decide +kernel
theorem dX11_text_17 : decode cX11_text 17 = .ok (.invokevirtual 100, 3) := by decide +kernel
theorem dX11_text_20 : decode cX11_text 20 = .ok (.aload_n 0, 1) := by decide +kernel
theorem dX11_text_21 : decode cX11_text 21 = .ok (.getfield 62, 3) := by decide +kernel
theorem dX11_text_24 : decode cX11_text 24 = .ok (.ifCond .ne 20, 3) := by decide +kernel
theorem dX11_text_27 : decode cX11_text 27 = .ok (.aload_n 0, 1) := by decide +kernel
theorem dX11_text_28 : decode cX11_text 28 = .ok (.getfield 82, 3) := by decide +kernel
theorem dX11_text_31 : decode cX11_text 31 = .ok (.ifCond .eq 13, 3) := by decide +kernel
theorem dX11_text_34 : decode cX11_text 34 = .ok (.aload_n 0, 1) := by decide +kernel
theorem dX11_text_35 : decode cX11_text 35 = .ok (.invokevirtual 127, 3) := by decide +kernel
theorem dX11_text_38 : decode cX11_text 38 = .ok (.iinc 1 1, 3) := by decide +kernel
theorem dX11_text_41 : decode cX11_text 41 = .ok (.goto (-21), 3) := by decide +kernel
theorem dX11_text_44 : decode cX11_text 44 = .ok (.aload_n 0, 1) := by decide +kernel
theorem dX11_text_45 : decode cX11_text 45 = .ok (.getfield 62, 3) := by decide +kernel
theorem dX11_text_48 : decode cX11_text 48 = .ok (.ifCond .ne 13, 3) := by decide +kernel
theorem dX11_text_51 : decode cX11_text 51 = .ok (.aload_n 0, 1) := by decide +kernel
theorem dX11_text_52 : decode cX11_text 52 = .ok (.aload_n 0, 1) := by decide +kernel
theorem dX11_text_53 : decode cX11_text 53 = .ok (.invokevirtual 130, 3) := by decide +kernel
theorem dX11_text_56 : decode cX11_text 56 = .ok (.bipush 6, 2) := by decide +kernel
theorem dX11_text_58 : decode cX11_text 58 = .ok (.invokevirtual 96, 3) := by decide +kernel
theorem dX11_text_61 : decode cX11_text 61 = .ok (.aload_n 0, 1) := by decide +kernel
theorem dX11_text_62 : decode cX11_text 62 = .ok (.iconst 0, 1) := by decide +kernel
theorem dX11_text_63 : decode cX11_text 63 = .ok (.putfield 53, 3) := by decide +kernel
theorem dX11_text_66 : decode cX11_text 66 = .ok (.aload_n 0, 1) := by decide +kernel
theorem dX11_text_67 : decode cX11_text 67 = .ok (.getfield 62, 3) := by decide +kernel
theorem dX11_text_70 : decode cX11_text 70 = .ok (.ifCond .le 11, 3) := by decide +kernel
theorem dX11_text_73 : decode cX11_text 73 = .ok (.bipush (-10), 2) := by decide +kernel
theorem dX11_text_75 : decode cX11_text 75 = .ok (.aload_n 0, 1) := by decide +kernel
theorem dX11_text_76 : decode cX11_text 76 = .ok (.getfield 68, 3) := by decide +kernel
theorem dX11_text_79 : decode cX11_text 79 = .ok (.isub, 1) := by decide +kernel
theorem dX11_text_80 : decode cX11_text 80 = .ok (.ireturn, 1) := by decide +kernel
theorem dX11_text_81 : decode cX11_text 81 = .ok (.aload_n 0, 1) := by decide +kernel
theorem dX11_text_82 : decode cX11_text 82 = .ok (.invokevirtual 46, 3) := by decide +kernel
theorem dX11_text_85 : decode cX11_text 85 = .ok (.iload_n 1, 1) := by decide +kernel
theorem dX11_text_86 : decode cX11_text 86 = .ok (.ireturn, 1) := by decide +kernel
theorem dX11_fault_0 : decode cX11_fault 0 = .ok (.aload_n 0, 1) := by decide +kernel
theorem dX11_fault_1 : decode cX11_fault 1 = .ok (.getfield 62, 3) := by decide +kernel
theorem dX11_fault_4 : decode cX11_fault 4 = .ok (.ireturn, 1) := by decide +kernel
theorem dX11_isState_0 : decode cX11_isState 0 = .ok (.iload_n 1, 1) := by decide +kernel
theorem dX11_isState_1 : decode cX11_isState 1 = .ok (.i2l, 1) := by decide +kernel
theorem dX11_isState_2 : decode cX11_isState 2 = .ok (.lconst 0, 1) := by decide +kernel
theorem dX11_isState_3 : decode cX11_isState 3 = .ok (.aload_n 0, 1) := by decide +kernel
theorem dX11_isState_4 : decode cX11_isState 4 = .ok (.getfield 7, 3) := by decide +kernel
theorem dX11_isState_7 : decode cX11_isState 7 = .ok (.sipush 230, 3) := by decide +kernel
theorem dX11_isState_10 : decode cX11_isState 10 = .ok (.iaload, 1) := by decide +kernel
theorem dX11_isState_11 : decode cX11_isState 11 = .ok (.iconst 1, 1) := by decide +kernel
theorem dX11_isState_12 : decode cX11_isState 12 = .ok (.isub, 1) := by decide +kernel
theorem dX11_isState_13 : decode cX11_isState 13 = .ok (.i2l, 1) := by decide +kernel
theorem dX11_isState_14 : decode cX11_isState 14 = .ok (.invokestatic 58, 3) := by decide +kernel
theorem dX11_isState_17 : decode cX11_isState 17 = .ok (.ireturn, 1) := by decide +kernel
theorem dX11_rule_0 : decode cX11_rule 0 = .ok (.iload_n 1, 1) := by decide +kernel
theorem dX11_rule_1 : decode cX11_rule 1 = .ok (.tableswitch 67 0 3 #[31, 40, 49, 58], 31) := by decide +kernel
theorem dX11_rule_32 : decode cX11_rule 32 = .ok (.aload_n 0, 1) := by decide +kernel
theorem dX11_rule_33 : decode cX11_rule 33 = .ok (.getfield 7, 3) := by decide +kernel
theorem dX11_rule_36 : decode cX11_rule 36 = .ok (.sipush 230, 3) := by decide +kernel
theorem dX11_rule_39 : decode cX11_rule 39 = .ok (.iaload, 1) := by decide +kernel
theorem dX11_rule_40 : decode cX11_rule 40 = .ok (.ireturn, 1) := by decide +kernel
theorem dX11_rule_41 : decode cX11_rule 41 = .ok (.aload_n 0, 1) := by decide +kernel
theorem dX11_rule_42 : decode cX11_rule 42 = .ok (.getfield 7, 3) := by decide +kernel
theorem dX11_rule_45 : decode cX11_rule 45 = .ok (.sipush 232, 3) := by decide +kernel
theorem dX11_rule_48 : decode cX11_rule 48 = .ok (.iaload, 1) := by decide +kernel
theorem dX11_rule_49 : decode cX11_rule 49 = .ok (.ireturn, 1) := by decide +kernel
theorem dX11_rule_50 : decode cX11_rule 50 = .ok (.aload_n 0, 1) := by decide +kernel
theorem dX11_rule_51 : decode cX11_rule 51 = .ok (.getfield 7, 3) := by decide +kernel
theorem dX11_rule_54 : decode cX11_rule 54 = .ok (.sipush 233, 3) := by decide +kernel
theorem dX11_rule_57 : decode cX11_rule 57 = .ok (.iaload, 1) := by decide +kernel
theorem dX11_rule_58 : decode cX11_rule 58 = .ok (.ireturn, 1) := by decide +kernel
theorem dX11_rule_59 : decode cX11_rule 59 = .ok (.aload_n 0, 1) := by decide +kernel
theorem dX11_rule_60 : decode cX11_rule 60 = .ok (.getfield 7, 3) := by decide +kernel
theorem dX11_rule_63 : decode cX11_rule 63 = .ok (.sipush 231, 3) := by decide +kernel
theorem dX11_rule_66 : decode cX11_rule 66 = .ok (.iaload, 1) := by decide +kernel
theorem dX11_rule_67 : decode cX11_rule 67 = .ok (.ireturn, 1) := by decide +kernel
theorem dX11_rule_68 : decode cX11_rule 68 = .ok (.aload_n 0, 1) := by decide +kernel
theorem dX11_rule_69 : decode cX11_rule 69 = .ok (.iload_n 1, 1) := by decide +kernel
theorem dX11_rule_70 : decode cX11_rule 70 = .ok (.bipush 10, 2) := by decide +kernel
theorem dX11_rule_72 : decode cX11_rule 72 = .ok (.isub, 1) := by decide +kernel
theorem dX11_rule_73 : decode cX11_rule 73 = .ok (.invokevirtual 134, 3) := by decide +kernel
theorem dX11_rule_76 : decode cX11_rule 76 = .ok (.ifCond .eq 19, 3) := by decide +kernel
theorem dX11_rule_79 : decode cX11_rule 79 = .ok (.aload_n 0, 1) := by decide +kernel
theorem dX11_rule_80 : decode cX11_rule 80 = .ok (.getfield 7, 3) := by decide +kernel
theorem dX11_rule_83 : decode cX11_rule 83 = .ok (.sipush 222, 3) := by decide +kernel
theorem dX11_rule_86 : decode cX11_rule 86 = .ok (.iload_n 1, 1) := by decide +kernel
theorem dX11_rule_87 : decode cX11_rule 87 = .ok (.iadd, 1) := by decide +kernel
theorem dX11_rule_88 : decode cX11_rule 88 = .ok (.bipush 10, 2) := by decide +kernel
theorem dX11_rule_90 : decode cX11_rule 90 = .ok (.isub, 1) := by decide +kernel
theorem dX11_rule_91 : decode cX11_rule 91 = .ok (.iaload, 1) := by decide +kernel
theorem dX11_rule_92 : decode cX11_rule 92 = .ok (.goto 4, 3) := by decide +kernel
theorem dX11_rule_95 : decode cX11_rule 95 = .ok (.iconst (-1), 1) := by decide +kernel
theorem dX11_rule_96 : decode cX11_rule 96 = .ok (.ireturn, 1) := by decide +kernel
theorem dX11_branch_0 : decode cX11_branch 0 = .ok (.aload_n 0, 1) := by decide +kernel
theorem dX11_branch_1 : decode cX11_branch 1 = .ok (.iload_n 1, 1) := by decide +kernel
theorem dX11_branch_2 : decode cX11_branch 2 = .ok (.invokevirtual 134, 3) := by decide +kernel
theorem dX11_branch_5 : decode cX11_branch 5 = .ok (.ifCond .eq 25, 3) := by decide +kernel
theorem dX11_branch_8 : decode cX11_branch 8 = .ok (.iload_n 2, 1) := by decide +kernel
theorem dX11_branch_9 : decode cX11_branch 9 = .ok (.i2l, 1) := by decide +kernel
theorem dX11_branch_10 : decode cX11_branch 10 = .ok (.lconst 0, 1) := by decide +kernel
theorem dX11_branch_11 : decode cX11_branch 11 = .ok (.aload_n 0, 1) := by decide +kernel
theorem dX11_branch_12 : decode cX11_branch 12 = .ok (.getfield 7, 3) := by decide +kernel
theorem dX11_branch_15 : decode cX11_branch 15 = .ok (.sipush 222, 3) := by decide +kernel
theorem dX11_branch_18 : decode cX11_branch 18 = .ok (.iload_n 1, 1) := by decide +kernel
theorem dX11_branch_19 : decode cX11_branch 19 = .ok (.iadd, 1) := by decide +kernel
theorem dX11_branch_20 : decode cX11_branch 20 = .ok (.iaload, 1) := by decide +kernel
theorem dX11_branch_21 : decode cX11_branch 21 = .ok (.iconst 1, 1) := by decide +kernel
theorem dX11_branch_22 : decode cX11_branch 22 = .ok (.isub, 1) := by decide +kernel
theorem dX11_branch_23 : decode cX11_branch 23 = .ok (.i2l, 1) := by decide +kernel
theorem dX11_branch_24 : decode cX11_branch 24 = .ok (.invokestatic 58, 3) := by decide +kernel
theorem dX11_branch_27 : decode cX11_branch 27 = .ok (.ifCond .ne 5, 3) := by decide +kernel
theorem dX11_branch_30 : decode cX11_branch 30 = .ok (.iconst (-1), 1) := by decide +kernel
theorem dX11_branch_31 : decode cX11_branch 31 = .ok (.ireturn, 1) := by decide +kernel
theorem dX11_branch_32 : decode cX11_branch 32 = .ok (.iconst 3, 1) := by decide +kernel
theorem dX11_branch_33 : decode cX11_branch 33 = .ok (.iload_n 1, 1) := by decide +kernel
theorem dX11_branch_34 : decode cX11_branch 34 = .ok (.imul, 1) := by decide +kernel
theorem dX11_branch_35 : decode cX11_branch 35 = .ok (.iload_n 2, 1) := by decide +kernel
theorem dX11_branch_36 : decode cX11_branch 36 = .ok (.iadd, 1) := by decide +kernel
theorem dX11_branch_37 : decode cX11_branch 37 = .ok (.istore 4, 2) := by decide +kernel
theorem dX11_branch_39 : decode cX11_branch 39 = .ok (.iload_n 3, 1) := by decide +kernel
theorem dX11_branch_40 : decode cX11_branch 40 = .ok (.i2l, 1) := by decide +kernel
theorem dX11_branch_41 : decode cX11_branch 41 = .ok (.lconst 0, 1) := by decide +kernel
theorem dX11_branch_42 : decode cX11_branch 42 = .ok (.ldc2_w 138, 3) := by decide +kernel
theorem dX11_branch_45 : decode cX11_branch 45 = .ok (.invokestatic 58, 3) := by decide +kernel
theorem dX11_branch_48 : decode cX11_branch 48 = .ok (.ifCond .eq 48, 3) := by decide +kernel
theorem dX11_branch_51 : decode cX11_branch 51 = .ok (.iload_n 3, 1) := by decide +kernel
theorem dX11_branch_52 : decode cX11_branch 52 = .ok (.ifCond .ne 15, 3) := by decide +kernel
theorem dX11_branch_55 : decode cX11_branch 55 = .ok (.aload_n 0, 1) := by decide +kernel
theorem dX11_branch_56 : decode cX11_branch 56 = .ok (.getfield 7, 3) := by decide +kernel
theorem dX11_branch_59 : decode cX11_branch 59 = .ok (.iconst 0, 1) := by decide +kernel
theorem dX11_branch_60 : decode cX11_branch 60 = .ok (.iload 4, 2) := by decide +kernel
theorem dX11_branch_62 : decode cX11_branch 62 = .ok (.iadd, 1) := by decide +kernel
theorem dX11_branch_63 : decode cX11_branch 63 = .ok (.iaload, 1) := by decide +kernel
theorem dX11_branch_64 : decode cX11_branch 64 = .ok (.goto 31, 3) := by decide +kernel
theorem dX11_branch_67 : decode cX11_branch 67 = .ok (.iload_n 3, 1) := by decide +kernel
theorem dX11_branch_68 : decode cX11_branch 68 = .ok (.iconst 1, 1) := by decide +kernel
theorem dX11_branch_69 : decode cX11_branch 69 = .ok (.if_icmp .ne 16, 3) := by decide +kernel
theorem dX11_branch_72 : decode cX11_branch 72 = .ok (.aload_n 0, 1) := by decide +kernel
theorem dX11_branch_73 : decode cX11_branch 73 = .ok (.getfield 7, 3) := by decide +kernel
theorem dX11_branch_76 : decode cX11_branch 76 = .ok (.bipush 24, 2) := by decide +kernel
theorem dX11_branch_78 : decode cX11_branch 78 = .ok (.iload 4, 2) := by decide +kernel
theorem dX11_branch_80 : decode cX11_branch 80 = .ok (.iadd, 1) := by decide +kernel
theorem dX11_branch_81 : decode cX11_branch 81 = .ok (.iaload, 1) := by decide +kernel
theorem dX11_branch_82 : decode cX11_branch 82 = .ok (.goto 13, 3) := by decide +kernel
theorem dX11_branch_85 : decode cX11_branch 85 = .ok (.aload_n 0, 1) := by decide +kernel
theorem dX11_branch_86 : decode cX11_branch 86 = .ok (.getfield 7, 3) := by decide +kernel
theorem dX11_branch_89 : decode cX11_branch 89 = .ok (.bipush 48, 2) := by decide +kernel
theorem dX11_branch_91 : decode cX11_branch 91 = .ok (.iload 4, 2) := by decide +kernel
theorem dX11_branch_93 : decode cX11_branch 93 = .ok (.iadd, 1) := by decide +kernel
theorem dX11_branch_94 : decode cX11_branch 94 = .ok (.iaload, 1) := by decide +kernel
theorem dX11_branch_95 : decode cX11_branch 95 = .ok (.ireturn, 1) := by decide +kernel
theorem dX11_branch_96 : decode cX11_branch 96 = .ok (.iload_n 3, 1) := by decide +kernel
theorem dX11_branch_97 : decode cX11_branch 97 = .ok (.i2l, 1) := by decide +kernel
theorem dX11_branch_98 : decode cX11_branch 98 = .ok (.ldc2_w 140, 3) := by decide +kernel
theorem dX11_branch_101 : decode cX11_branch 101 = .ok (.bipush 9, 2) := by decide +kernel
theorem dX11_branch_103 : decode cX11_branch 103 = .ok (.aload_n 0, 1) := by decide +kernel
theorem dX11_branch_104 : decode cX11_branch 104 = .ok (.getfield 7, 3) := by decide +kernel
theorem dX11_branch_107 : decode cX11_branch 107 = .ok (.iconst 0, 1) := by decide +kernel
theorem dX11_branch_108 : decode cX11_branch 108 = .ok (.iload 4, 2) := by decide +kernel
theorem dX11_branch_110 : decode cX11_branch 110 = .ok (.iadd, 1) := by decide +kernel
theorem dX11_branch_111 : decode cX11_branch 111 = .ok (.iaload, 1) := by decide +kernel
theorem dX11_branch_112 : decode cX11_branch 112 = .ok (.iadd, 1) := by decide +kernel
theorem dX11_branch_113 : decode cX11_branch 113 = .ok (.i2l, 1) := by decide +kernel
theorem dX11_branch_114 : decode cX11_branch 114 = .ok (.invokestatic 58, 3) := by decide +kernel
theorem dX11_branch_117 : decode cX11_branch 117 = .ok (.ifCond .eq 21, 3) := by decide +kernel
theorem dX11_branch_120 : decode cX11_branch 120 = .ok (.aload_n 0, 1) := by decide +kernel
theorem dX11_branch_121 : decode cX11_branch 121 = .ok (.getfield 7, 3) := by decide +kernel
theorem dX11_branch_124 : decode cX11_branch 124 = .ok (.bipush 72, 2) := by decide +kernel
theorem dX11_branch_126 : decode cX11_branch 126 = .ok (.iconst 3, 1) := by decide +kernel
theorem dX11_branch_127 : decode cX11_branch 127 = .ok (.iload 4, 2) := by decide +kernel
theorem dX11_branch_129 : decode cX11_branch 129 = .ok (.imul, 1) := by decide +kernel
theorem dX11_branch_130 : decode cX11_branch 130 = .ok (.iadd, 1) := by decide +kernel
theorem dX11_branch_131 : decode cX11_branch 131 = .ok (.iload_n 3, 1) := by decide +kernel
theorem dX11_branch_132 : decode cX11_branch 132 = .ok (.iadd, 1) := by decide +kernel
theorem dX11_branch_133 : decode cX11_branch 133 = .ok (.bipush 10, 2) := by decide +kernel
theorem dX11_branch_135 : decode cX11_branch 135 = .ok (.isub, 1) := by decide +kernel
theorem dX11_branch_136 : decode cX11_branch 136 = .ok (.iaload, 1) := by decide +kernel
theorem dX11_branch_137 : decode cX11_branch 137 = .ok (.ireturn, 1) := by decide +kernel
theorem dX11_branch_138 : decode cX11_branch 138 = .ok (.iload_n 3, 1) := by decide +kernel
theorem dX11_branch_139 : decode cX11_branch 139 = .ok (.i2l, 1) := by decide +kernel
theorem dX11_branch_140 : decode cX11_branch 140 = .ok (.ldc2_w 142, 3) := by decide +kernel
theorem dX11_branch_143 : decode cX11_branch 143 = .ok (.bipush 19, 2) := by decide +kernel
theorem dX11_branch_145 : decode cX11_branch 145 = .ok (.aload_n 0, 1) := by decide +kernel
theorem dX11_branch_146 : decode cX11_branch 146 = .ok (.getfield 7, 3) := by decide +kernel
theorem dX11_branch_149 : decode cX11_branch 149 = .ok (.iconst 0, 1) := by decide +kernel
theorem dX11_branch_150 : decode cX11_branch 150 = .ok (.iload 4, 2) := by decide +kernel
theorem dX11_branch_152 : decode cX11_branch 152 = .ok (.iadd, 1) := by decide +kernel
theorem dX11_branch_153 : decode cX11_branch 153 = .ok (.iaload, 1) := by decide +kernel
theorem dX11_branch_154 : decode cX11_branch 154 = .ok (.iadd, 1) := by decide +kernel
theorem dX11_branch_155 : decode cX11_branch 155 = .ok (.i2l, 1) := by decide +kernel
theorem dX11_branch_156 : decode cX11_branch 156 = .ok (.invokestatic 58, 3) := by decide +kernel
theorem dX11_branch_159 : decode cX11_branch 159 = .ok (.ifCond .eq 24, 3) := by decide +kernel
theorem dX11_branch_162 : decode cX11_branch 162 = .ok (.aload_n 0, 1) := by decide +kernel
theorem dX11_branch_163 : decode cX11_branch 163 = .ok (.getfield 7, 3) := by decide +kernel
theorem dX11_branch_166 : decode cX11_branch 166 = .ok (.sipush 147, 3) := by decide +kernel
theorem dX11_branch_169 : decode cX11_branch 169 = .ok (.iconst 3, 1) := by decide +kernel
theorem dX11_branch_170 : decode cX11_branch 170 = .ok (.iload 4, 2) := by decide +kernel
theorem dX11_branch_172 : decode cX11_branch 172 = .ok (.imul, 1) := by decide +kernel
theorem dX11_branch_173 : decode cX11_branch 173 = .ok (.iadd, 1) := by decide +kernel
theorem dX11_branch_174 : decode cX11_branch 174 = .ok (.iload_n 3, 1) := by decide +kernel
theorem dX11_branch_175 : decode cX11_branch 175 = .ok (.iadd, 1) := by decide +kernel
theorem dX11_branch_176 : decode cX11_branch 176 = .ok (.bipush 20, 2) := by decide +kernel
theorem dX11_branch_178 : decode cX11_branch 178 = .ok (.isub, 1) := by decide +kernel
theorem dX11_branch_179 : decode cX11_branch 179 = .ok (.iaload, 1) := by decide +kernel
theorem dX11_branch_180 : decode cX11_branch 180 = .ok (.goto 4, 3) := by decide +kernel
theorem dX11_branch_183 : decode cX11_branch 183 = .ok (.iconst (-1), 1) := by decide +kernel
theorem dX11_branch_184 : decode cX11_branch 184 = .ok (.ireturn, 1) := by decide +kernel
theorem dX11_isValue_0 : decode cX11_isValue 0 = .ok (.iload_n 0, 1) := by decide +kernel
theorem dX11_isValue_1 : decode cX11_isValue 1 = .ok (.i2l, 1) := by decide +kernel
theorem dX11_isValue_2 : decode cX11_isValue 2 = .ok (.lconst 0, 1) := by decide +kernel
theorem dX11_isValue_3 : decode cX11_isValue 3 = .ok (.ldc2_w 56, 3) := by decide +kernel
theorem dX11_isValue_6 : decode cX11_isValue 6 = .ok (.invokestatic 58, 3) := by decide +kernel
theorem dX11_isValue_9 : decode cX11_isValue 9 = .ok (.ireturn, 1) := by decide +kernel
theorem dX11_isSample_0 : decode cX11_isSample 0 = .ok (.iload_n 1, 1) := by decide +kernel
theorem dX11_isSample_1 : decode cX11_isSample 1 = .ok (.i2l, 1) := by decide +kernel
theorem dX11_isSample_2 : decode cX11_isSample 2 = .ok (.lconst 0, 1) := by decide +kernel
theorem dX11_isSample_3 : decode cX11_isSample 3 = .ok (.aload_n 0, 1) := by decide +kernel
theorem dX11_isSample_4 : decode cX11_isSample 4 = .ok (.getfield 144, 3) := by decide +kernel
theorem dX11_isSample_7 : decode cX11_isSample 7 = .ok (.iconst 1, 1) := by decide +kernel
theorem dX11_isSample_8 : decode cX11_isSample 8 = .ok (.isub, 1) := by decide +kernel
theorem dX11_isSample_9 : decode cX11_isSample 9 = .ok (.i2l, 1) := by decide +kernel
theorem dX11_isSample_10 : decode cX11_isSample 10 = .ok (.invokestatic 58, 3) := by decide +kernel
theorem dX11_isSample_13 : decode cX11_isSample 13 = .ok (.ireturn, 1) := by decide +kernel
theorem dX11_see_0 : decode cX11_see 0 = .ok (.iload_n 1, 1) := by decide +kernel
theorem dX11_see_1 : decode cX11_see 1 = .ok (.i2l, 1) := by decide +kernel
theorem dX11_see_2 : decode cX11_see 2 = .ok (.lconst 1, 1) := by decide +kernel
theorem dX11_see_3 : decode cX11_see 3 = .ok (.ldc2_w 147, 3) := by decide +kernel
theorem dX11_see_6 : decode cX11_see 6 = .ok (.invokestatic 58, 3) := by decide +kernel
theorem dX11_see_9 : decode cX11_see 9 = .ok (.ifCond .eq 10, 3) := by decide +kernel
theorem dX11_see_12 : decode cX11_see 12 = .ok (.iload_n 2, 1) := by decide +kernel
theorem dX11_see_13 : decode cX11_see 13 = .ok (.invokestatic 149, 3) := by decide +kernel
theorem dX11_see_16 : decode cX11_see 16 = .ok (.ifCond .ne 5, 3) := by decide +kernel
theorem dX11_see_19 : decode cX11_see 19 = .ok (.iconst (-1), 1) := by decide +kernel
theorem dX11_see_20 : decode cX11_see 20 = .ok (.ireturn, 1) := by decide +kernel
theorem dX11_see_21 : decode cX11_see 21 = .ok (.aload_n 0, 1) := by decide +kernel
theorem dX11_see_22 : decode cX11_see 22 = .ok (.getfield 144, 3) := by decide +kernel
theorem dX11_see_25 : decode cX11_see 25 = .ok (.iload_n 1, 1) := by decide +kernel
theorem dX11_see_26 : decode cX11_see 26 = .ok (.iadd, 1) := by decide +kernel
theorem dX11_see_27 : decode cX11_see 27 = .ok (.sipush 400, 3) := by decide +kernel
theorem dX11_see_30 : decode cX11_see 30 = .ok (.if_icmp .le 6, 3) := by decide +kernel
theorem dX11_see_33 : decode cX11_see 33 = .ok (.bipush (-3), 2) := by decide +kernel
theorem dX11_see_35 : decode cX11_see 35 = .ok (.ireturn, 1) := by decide +kernel
theorem dX11_see_36 : decode cX11_see 36 = .ok (.iconst 0, 1) := by decide +kernel
theorem dX11_see_37 : decode cX11_see 37 = .ok (.istore_n 3, 1) := by decide +kernel
theorem dX11_see_38 : decode cX11_see 38 = .ok (.iload_n 3, 1) := by decide +kernel
theorem dX11_see_39 : decode cX11_see 39 = .ok (.iload_n 1, 1) := by decide +kernel
theorem dX11_see_40 : decode cX11_see 40 = .ok (.if_icmp .ge 29, 3) := by decide +kernel
theorem dX11_see_43 : decode cX11_see 43 = .ok (.aload_n 0, 1) := by decide +kernel
theorem dX11_see_44 : decode cX11_see 44 = .ok (.getfield 16, 3) := by decide +kernel
theorem dX11_see_47 : decode cX11_see 47 = .ok (.aload_n 0, 1) := by decide +kernel
theorem dX11_see_48 : decode cX11_see 48 = .ok (.getfield 144, 3) := by decide +kernel
theorem dX11_see_51 : decode cX11_see 51 = .ok (.iload_n 2, 1) := by decide +kernel
theorem dX11_see_52 : decode cX11_see 52 = .ok (.iastore, 1) := by decide +kernel
theorem dX11_see_53 : decode cX11_see 53 = .ok (.aload_n 0, 1) := by decide +kernel
theorem dX11_see_54 : decode cX11_see 54 = .ok (.dup, 1) := by decide +kernel
theorem dX11_see_55 : decode cX11_see 55 = .ok (.getfield 144, 3) := by decide +kernel
theorem dX11_see_58 : decode cX11_see 58 = .ok (.iconst 1, 1) := by decide +kernel
theorem dX11_see_59 : decode cX11_see 59 = .ok (.iadd, 1) := by decide +kernel
theorem dX11_see_60 : decode cX11_see 60 = .ok (.putfield 144, 3) := by decide +kernel
theorem dX11_see_63 : decode cX11_see 63 = .ok (.iinc 3 1, 3) := by decide +kernel
theorem dX11_see_66 : decode cX11_see 66 = .ok (.goto (-28), 3) := by decide +kernel
theorem dX11_see_69 : decode cX11_see 69 = .ok (.aload_n 0, 1) := by decide +kernel
theorem dX11_see_70 : decode cX11_see 70 = .ok (.getfield 144, 3) := by decide +kernel
theorem dX11_see_73 : decode cX11_see 73 = .ok (.ireturn, 1) := by decide +kernel
theorem dX11_cut_0 : decode cX11_cut 0 = .ok (.iload_n 1, 1) := by decide +kernel
theorem dX11_cut_1 : decode cX11_cut 1 = .ok (.i2l, 1) := by decide +kernel
theorem dX11_cut_2 : decode cX11_cut 2 = .ok (.lconst 0, 1) := by decide +kernel
theorem dX11_cut_3 : decode cX11_cut 3 = .ok (.aload_n 0, 1) := by decide +kernel
theorem dX11_cut_4 : decode cX11_cut 4 = .ok (.getfield 144, 3) := by decide +kernel
theorem dX11_cut_7 : decode cX11_cut 7 = .ok (.i2l, 1) := by decide +kernel
theorem dX11_cut_8 : decode cX11_cut 8 = .ok (.invokestatic 58, 3) := by decide +kernel
theorem dX11_cut_11 : decode cX11_cut 11 = .ok (.ifCond .ne 5, 3) := by decide +kernel
theorem dX11_cut_14 : decode cX11_cut 14 = .ok (.iconst (-1), 1) := by decide +kernel
theorem dX11_cut_15 : decode cX11_cut 15 = .ok (.ireturn, 1) := by decide +kernel
theorem dX11_cut_16 : decode cX11_cut 16 = .ok (.aload_n 0, 1) := by decide +kernel
theorem dX11_cut_17 : decode cX11_cut 17 = .ok (.getfield 144, 3) := by decide +kernel
theorem dX11_cut_20 : decode cX11_cut 20 = .ok (.istore_n 2, 1) := by decide +kernel
theorem dX11_cut_21 : decode cX11_cut 21 = .ok (.aload_n 0, 1) := by decide +kernel
theorem dX11_cut_22 : decode cX11_cut 22 = .ok (.iload_n 1, 1) := by decide +kernel
theorem dX11_cut_23 : decode cX11_cut 23 = .ok (.putfield 144, 3) := by decide +kernel
theorem dX11_cut_26 : decode cX11_cut 26 = .ok (.iload_n 2, 1) := by decide +kernel
theorem dX11_cut_27 : decode cX11_cut 27 = .ok (.ireturn, 1) := by decide +kernel
theorem dX11_at_0 : decode cX11_at 0 = .ok (.aload_n 0, 1) := by decide +kernel
theorem dX11_at_1 : decode cX11_at 1 = .ok (.iload_n 1, 1) := by decide +kernel
theorem dX11_at_2 : decode cX11_at 2 = .ok (.invokevirtual 152, 3) := by decide +kernel
theorem dX11_at_5 : decode cX11_at 5 = .ok (.ifCond .eq 12, 3) := by decide +kernel
theorem dX11_at_8 : decode cX11_at 8 = .ok (.aload_n 0, 1) := by decide +kernel
theorem dX11_at_9 : decode cX11_at 9 = .ok (.getfield 16, 3) := by decide +kernel
theorem dX11_at_12 : decode cX11_at 12 = .ok (.iload_n 1, 1) := by decide +kernel
theorem dX11_at_13 : decode cX11_at 13 = .ok (.iaload, 1) := by decide +kernel
theorem dX11_at_14 : decode cX11_at 14 = .ok (.goto 4, 3) := by decide +kernel
theorem dX11_at_17 : decode cX11_at 17 = .ok (.iconst (-1), 1) := by decide +kernel
theorem dX11_at_18 : decode cX11_at 18 = .ok (.ireturn, 1) := by decide +kernel
theorem dX11_put_0 : decode cX11_put 0 = .ok (.aload_n 0, 1) := by decide +kernel
theorem dX11_put_1 : decode cX11_put 1 = .ok (.iload_n 1, 1) := by decide +kernel
theorem dX11_put_2 : decode cX11_put 2 = .ok (.invokevirtual 152, 3) := by decide +kernel
theorem dX11_put_5 : decode cX11_put 5 = .ok (.ifCond .eq 10, 3) := by decide +kernel
theorem dX11_put_8 : decode cX11_put 8 = .ok (.iload_n 2, 1) := by decide +kernel
theorem dX11_put_9 : decode cX11_put 9 = .ok (.invokestatic 149, 3) := by decide +kernel
theorem dX11_put_12 : decode cX11_put 12 = .ok (.ifCond .ne 5, 3) := by decide +kernel
theorem dX11_put_15 : decode cX11_put 15 = .ok (.iconst (-1), 1) := by decide +kernel
theorem dX11_put_16 : decode cX11_put 16 = .ok (.ireturn, 1) := by decide +kernel
theorem dX11_put_17 : decode cX11_put 17 = .ok (.aload_n 0, 1) := by decide +kernel
theorem dX11_put_18 : decode cX11_put 18 = .ok (.getfield 16, 3) := by decide +kernel
theorem dX11_put_21 : decode cX11_put 21 = .ok (.iload_n 1, 1) := by decide +kernel
theorem dX11_put_22 : decode cX11_put 22 = .ok (.iaload, 1) := by decide +kernel
theorem dX11_put_23 : decode cX11_put 23 = .ok (.istore_n 3, 1) := by decide +kernel
theorem dX11_put_24 : decode cX11_put 24 = .ok (.aload_n 0, 1) := by decide +kernel
theorem dX11_put_25 : decode cX11_put 25 = .ok (.getfield 16, 3) := by decide +kernel
theorem dX11_put_28 : decode cX11_put 28 = .ok (.iload_n 1, 1) := by decide +kernel
theorem dX11_put_29 : decode cX11_put 29 = .ok (.iload_n 2, 1) := by decide +kernel
theorem dX11_put_30 : decode cX11_put 30 = .ok (.iastore, 1) := by decide +kernel
theorem dX11_put_31 : decode cX11_put 31 = .ok (.iload_n 3, 1) := by decide +kernel
theorem dX11_put_32 : decode cX11_put 32 = .ok (.ireturn, 1) := by decide +kernel
theorem dX11_isHigh_0 : decode cX11_isHigh 0 = .ok (.aload_n 0, 1) := by decide +kernel
theorem dX11_isHigh_1 : decode cX11_isHigh 1 = .ok (.getfield 16, 3) := by decide +kernel
theorem dX11_isHigh_4 : decode cX11_isHigh 4 = .ok (.iload_n 2, 1) := by decide +kernel
theorem dX11_isHigh_5 : decode cX11_isHigh 5 = .ok (.iaload, 1) := by decide +kernel
theorem dX11_isHigh_6 : decode cX11_isHigh 6 = .ok (.iload_n 1, 1) := by decide +kernel
theorem dX11_isHigh_7 : decode cX11_isHigh 7 = .ok (.ishr, 1) := by decide +kernel
theorem dX11_isHigh_8 : decode cX11_isHigh 8 = .ok (.iconst 1, 1) := by decide +kernel
theorem dX11_isHigh_9 : decode cX11_isHigh 9 = .ok (.iand, 1) := by decide +kernel
theorem dX11_isHigh_10 : decode cX11_isHigh 10 = .ok (.iconst 1, 1) := by decide +kernel
theorem dX11_isHigh_11 : decode cX11_isHigh 11 = .ok (.if_icmp .ne 7, 3) := by decide +kernel
theorem dX11_isHigh_14 : decode cX11_isHigh 14 = .ok (.iconst 1, 1) := by decide +kernel
theorem dX11_isHigh_15 : decode cX11_isHigh 15 = .ok (.goto 4, 3) := by decide +kernel
theorem dX11_isHigh_18 : decode cX11_isHigh 18 = .ok (.iconst 0, 1) := by decide +kernel
theorem dX11_isHigh_19 : decode cX11_isHigh 19 = .ok (.ireturn, 1) := by decide +kernel
theorem dX11_rises_0 : decode cX11_rises 0 = .ok (.iload_n 2, 1) := by decide +kernel
theorem dX11_rises_1 : decode cX11_rises 1 = .ok (.ifCond .le 27, 3) := by decide +kernel
theorem dX11_rises_4 : decode cX11_rises 4 = .ok (.aload_n 0, 1) := by decide +kernel
theorem dX11_rises_5 : decode cX11_rises 5 = .ok (.iload_n 1, 1) := by decide +kernel
theorem dX11_rises_6 : decode cX11_rises 6 = .ok (.iload_n 2, 1) := by decide +kernel
theorem dX11_rises_7 : decode cX11_rises 7 = .ok (.invokevirtual 155, 3) := by decide +kernel
theorem dX11_rises_10 : decode cX11_rises 10 = .ok (.ifCond .eq 18, 3) := by decide +kernel
theorem dX11_rises_13 : decode cX11_rises 13 = .ok (.aload_n 0, 1) := by decide +kernel
theorem dX11_rises_14 : decode cX11_rises 14 = .ok (.iload_n 1, 1) := by decide +kernel
theorem dX11_rises_15 : decode cX11_rises 15 = .ok (.iload_n 2, 1) := by decide +kernel
theorem dX11_rises_16 : decode cX11_rises 16 = .ok (.iconst 1, 1) := by decide +kernel
theorem dX11_rises_17 : decode cX11_rises 17 = .ok (.isub, 1) := by decide +kernel
theorem dX11_rises_18 : decode cX11_rises 18 = .ok (.invokevirtual 155, 3) := by decide +kernel
theorem dX11_rises_21 : decode cX11_rises 21 = .ok (.ifCond .ne 7, 3) := by decide +kernel
theorem dX11_rises_24 : decode cX11_rises 24 = .ok (.iconst 1, 1) := by decide +kernel
theorem dX11_rises_25 : decode cX11_rises 25 = .ok (.goto 4, 3) := by decide +kernel
theorem dX11_rises_28 : decode cX11_rises 28 = .ok (.iconst 0, 1) := by decide +kernel
theorem dX11_rises_29 : decode cX11_rises 29 = .ok (.ireturn, 1) := by decide +kernel
theorem dX11_falls_0 : decode cX11_falls 0 = .ok (.iload_n 2, 1) := by decide +kernel
theorem dX11_falls_1 : decode cX11_falls 1 = .ok (.ifCond .le 27, 3) := by decide +kernel
theorem dX11_falls_4 : decode cX11_falls 4 = .ok (.aload_n 0, 1) := by decide +kernel
theorem dX11_falls_5 : decode cX11_falls 5 = .ok (.iload_n 1, 1) := by decide +kernel
theorem dX11_falls_6 : decode cX11_falls 6 = .ok (.iload_n 2, 1) := by decide +kernel
theorem dX11_falls_7 : decode cX11_falls 7 = .ok (.invokevirtual 155, 3) := by decide +kernel
theorem dX11_falls_10 : decode cX11_falls 10 = .ok (.ifCond .ne 18, 3) := by decide +kernel
theorem dX11_falls_13 : decode cX11_falls 13 = .ok (.aload_n 0, 1) := by decide +kernel
theorem dX11_falls_14 : decode cX11_falls 14 = .ok (.iload_n 1, 1) := by decide +kernel
theorem dX11_falls_15 : decode cX11_falls 15 = .ok (.iload_n 2, 1) := by decide +kernel
theorem dX11_falls_16 : decode cX11_falls 16 = .ok (.iconst 1, 1) := by decide +kernel
theorem dX11_falls_17 : decode cX11_falls 17 = .ok (.isub, 1) := by decide +kernel
theorem dX11_falls_18 : decode cX11_falls 18 = .ok (.invokevirtual 155, 3) := by decide +kernel
theorem dX11_falls_21 : decode cX11_falls 21 = .ok (.ifCond .eq 7, 3) := by decide +kernel
theorem dX11_falls_24 : decode cX11_falls 24 = .ok (.iconst 1, 1) := by decide +kernel
theorem dX11_falls_25 : decode cX11_falls 25 = .ok (.goto 4, 3) := by decide +kernel
theorem dX11_falls_28 : decode cX11_falls 28 = .ok (.iconst 0, 1) := by decide +kernel
theorem dX11_falls_29 : decode cX11_falls 29 = .ok (.ireturn, 1) := by decide +kernel
theorem dX11_isSo_0 : decode cX11_isSo 0 = .ok (.iconst 1, 1) := by decide +kernel
theorem dX11_isSo_1 : decode cX11_isSo 1 = .ok (.istore 5, 2) := by decide +kernel
theorem dX11_isSo_3 : decode cX11_isSo 3 = .ok (.iload_n 1, 1) := by decide +kernel
theorem dX11_isSo_4 : decode cX11_isSo 4 = .ok (.istore 6, 2) := by decide +kernel
theorem dX11_isSo_6 : decode cX11_isSo 6 = .ok (.iload 6, 2) := by decide +kernel
theorem dX11_isSo_8 : decode cX11_isSo 8 = .ok (.iload_n 1, 1) := by decide +kernel
theorem dX11_isSo_9 : decode cX11_isSo 9 = .ok (.iload_n 2, 1) := by decide +kernel
theorem dX11_isSo_10 : decode cX11_isSo 10 = .ok (.iadd, 1) := by decide +kernel
theorem dX11_isSo_11 : decode cX11_isSo 11 = .ok (.if_icmp .ge 242, 3) := by decide +kernel
theorem dX11_isSo_14 : decode cX11_isSo 14 = .ok (.aload_n 0, 1) := by decide +kernel
theorem dX11_isSo_15 : decode cX11_isSo 15 = .ok (.getfield 7, 3) := by decide +kernel
theorem dX11_isSo_18 : decode cX11_isSo 18 = .ok (.sipush 147, 3) := by decide +kernel
theorem dX11_isSo_21 : decode cX11_isSo 21 = .ok (.iload 6, 2) := by decide +kernel
theorem dX11_isSo_23 : decode cX11_isSo 23 = .ok (.iadd, 1) := by decide +kernel
theorem dX11_isSo_24 : decode cX11_isSo 24 = .ok (.iaload, 1) := by decide +kernel
theorem dX11_isSo_25 : decode cX11_isSo 25 = .ok (.istore 7, 2) := by decide +kernel
theorem dX11_isSo_27 : decode cX11_isSo 27 = .ok (.aload_n 0, 1) := by decide +kernel
theorem dX11_isSo_28 : decode cX11_isSo 28 = .ok (.getfield 7, 3) := by decide +kernel
theorem dX11_isSo_31 : decode cX11_isSo 31 = .ok (.bipush 72, 2) := by decide +kernel
theorem dX11_isSo_33 : decode cX11_isSo 33 = .ok (.iload 6, 2) := by decide +kernel
theorem dX11_isSo_35 : decode cX11_isSo 35 = .ok (.iadd, 1) := by decide +kernel
theorem dX11_isSo_36 : decode cX11_isSo 36 = .ok (.iaload, 1) := by decide +kernel
theorem dX11_isSo_37 : decode cX11_isSo 37 = .ok (.tableswitch 191 0 5 #[39, 64, 89, 114, 139, 165], 39) := by decide +kernel
theorem dX11_isSo_76 : decode cX11_isSo 76 = .ok (.iload 5, 2) := by decide +kernel
theorem dX11_isSo_78 : decode cX11_isSo 78 = .ok (.ifCond .eq 17, 3) := by decide +kernel
theorem dX11_isSo_81 : decode cX11_isSo 81 = .ok (.aload_n 0, 1) := by decide +kernel
theorem dX11_isSo_82 : decode cX11_isSo 82 = .ok (.iload 7, 2) := by decide +kernel
theorem dX11_isSo_84 : decode cX11_isSo 84 = .ok (.iload_n 3, 1) := by decide +kernel
theorem dX11_isSo_85 : decode cX11_isSo 85 = .ok (.invokevirtual 155, 3) := by decide +kernel
theorem dX11_isSo_88 : decode cX11_isSo 88 = .ok (.ifCond .eq 7, 3) := by decide +kernel
theorem dX11_isSo_91 : decode cX11_isSo 91 = .ok (.iconst 1, 1) := by decide +kernel
theorem dX11_isSo_92 : decode cX11_isSo 92 = .ok (.goto 4, 3) := by decide +kernel
theorem dX11_isSo_95 : decode cX11_isSo 95 = .ok (.iconst 0, 1) := by decide +kernel
theorem dX11_isSo_96 : decode cX11_isSo 96 = .ok (.istore 5, 2) := by decide +kernel
theorem dX11_isSo_98 : decode cX11_isSo 98 = .ok (.goto 149, 3) := by decide +kernel
theorem dX11_isSo_101 : decode cX11_isSo 101 = .ok (.iload 5, 2) := by decide +kernel
theorem dX11_isSo_103 : decode cX11_isSo 103 = .ok (.ifCond .eq 17, 3) := by decide +kernel
theorem dX11_isSo_106 : decode cX11_isSo 106 = .ok (.aload_n 0, 1) := by decide +kernel
theorem dX11_isSo_107 : decode cX11_isSo 107 = .ok (.iload 7, 2) := by decide +kernel
theorem dX11_isSo_109 : decode cX11_isSo 109 = .ok (.iload_n 3, 1) := by decide +kernel
theorem dX11_isSo_110 : decode cX11_isSo 110 = .ok (.invokevirtual 155, 3) := by decide +kernel
theorem dX11_isSo_113 : decode cX11_isSo 113 = .ok (.ifCond .ne 7, 3) := by decide +kernel
theorem dX11_isSo_116 : decode cX11_isSo 116 = .ok (.iconst 1, 1) := by decide +kernel
theorem dX11_isSo_117 : decode cX11_isSo 117 = .ok (.goto 4, 3) := by decide +kernel
theorem dX11_isSo_120 : decode cX11_isSo 120 = .ok (.iconst 0, 1) := by decide +kernel
theorem dX11_isSo_121 : decode cX11_isSo 121 = .ok (.istore 5, 2) := by decide +kernel
theorem dX11_isSo_123 : decode cX11_isSo 123 = .ok (.goto 124, 3) := by decide +kernel
theorem dX11_isSo_126 : decode cX11_isSo 126 = .ok (.iload 5, 2) := by decide +kernel
theorem dX11_isSo_128 : decode cX11_isSo 128 = .ok (.ifCond .eq 17, 3) := by decide +kernel
theorem dX11_isSo_131 : decode cX11_isSo 131 = .ok (.aload_n 0, 1) := by decide +kernel
theorem dX11_isSo_132 : decode cX11_isSo 132 = .ok (.iload 7, 2) := by decide +kernel
theorem dX11_isSo_134 : decode cX11_isSo 134 = .ok (.iload_n 3, 1) := by decide +kernel
theorem dX11_isSo_135 : decode cX11_isSo 135 = .ok (.invokevirtual 159, 3) := by decide +kernel
theorem dX11_isSo_138 : decode cX11_isSo 138 = .ok (.ifCond .eq 7, 3) := by decide +kernel
theorem dX11_isSo_141 : decode cX11_isSo 141 = .ok (.iconst 1, 1) := by decide +kernel
theorem dX11_isSo_142 : decode cX11_isSo 142 = .ok (.goto 4, 3) := by decide +kernel
theorem dX11_isSo_145 : decode cX11_isSo 145 = .ok (.iconst 0, 1) := by decide +kernel
theorem dX11_isSo_146 : decode cX11_isSo 146 = .ok (.istore 5, 2) := by decide +kernel
theorem dX11_isSo_148 : decode cX11_isSo 148 = .ok (.goto 99, 3) := by decide +kernel
theorem dX11_isSo_151 : decode cX11_isSo 151 = .ok (.iload 5, 2) := by decide +kernel
theorem dX11_isSo_153 : decode cX11_isSo 153 = .ok (.ifCond .eq 17, 3) := by decide +kernel
theorem dX11_isSo_156 : decode cX11_isSo 156 = .ok (.aload_n 0, 1) := by decide +kernel
theorem dX11_isSo_157 : decode cX11_isSo 157 = .ok (.iload 7, 2) := by decide +kernel
theorem dX11_isSo_159 : decode cX11_isSo 159 = .ok (.iload_n 3, 1) := by decide +kernel
theorem dX11_isSo_160 : decode cX11_isSo 160 = .ok (.invokevirtual 162, 3) := by decide +kernel
theorem dX11_isSo_163 : decode cX11_isSo 163 = .ok (.ifCond .eq 7, 3) := by decide +kernel
theorem dX11_isSo_166 : decode cX11_isSo 166 = .ok (.iconst 1, 1) := by decide +kernel
theorem dX11_isSo_167 : decode cX11_isSo 167 = .ok (.goto 4, 3) := by decide +kernel
theorem dX11_isSo_170 : decode cX11_isSo 170 = .ok (.iconst 0, 1) := by decide +kernel
theorem dX11_isSo_171 : decode cX11_isSo 171 = .ok (.istore 5, 2) := by decide +kernel
theorem dX11_isSo_173 : decode cX11_isSo 173 = .ok (.goto 74, 3) := by decide +kernel
theorem dX11_isSo_176 : decode cX11_isSo 176 = .ok (.iload 5, 2) := by decide +kernel
theorem dX11_isSo_178 : decode cX11_isSo 178 = .ok (.ifCond .eq 18, 3) := by decide +kernel
theorem dX11_isSo_181 : decode cX11_isSo 181 = .ok (.aload_n 0, 1) := by decide +kernel
theorem dX11_isSo_182 : decode cX11_isSo 182 = .ok (.getfield 16, 3) := by decide +kernel
theorem dX11_isSo_185 : decode cX11_isSo 185 = .ok (.iload_n 3, 1) := by decide +kernel
theorem dX11_isSo_186 : decode cX11_isSo 186 = .ok (.iaload, 1) := by decide +kernel
theorem dX11_isSo_187 : decode cX11_isSo 187 = .ok (.iload 7, 2) := by decide +kernel
theorem dX11_isSo_189 : decode cX11_isSo 189 = .ok (.if_icmp .ne 7, 3) := by decide +kernel
theorem dX11_isSo_192 : decode cX11_isSo 192 = .ok (.iconst 1, 1) := by decide +kernel
theorem dX11_isSo_193 : decode cX11_isSo 193 = .ok (.goto 4, 3) := by decide +kernel
theorem dX11_isSo_196 : decode cX11_isSo 196 = .ok (.iconst 0, 1) := by decide +kernel
theorem dX11_isSo_197 : decode cX11_isSo 197 = .ok (.istore 5, 2) := by decide +kernel
theorem dX11_isSo_199 : decode cX11_isSo 199 = .ok (.goto 48, 3) := by decide +kernel
theorem dX11_isSo_202 : decode cX11_isSo 202 = .ok (.iload 5, 2) := by decide +kernel
theorem dX11_isSo_204 : decode cX11_isSo 204 = .ok (.ifCond .eq 18, 3) := by decide +kernel
theorem dX11_isSo_207 : decode cX11_isSo 207 = .ok (.aload_n 0, 1) := by decide +kernel
theorem dX11_isSo_208 : decode cX11_isSo 208 = .ok (.getfield 16, 3) := by decide +kernel
theorem dX11_isSo_211 : decode cX11_isSo 211 = .ok (.iload_n 3, 1) := by decide +kernel
theorem dX11_isSo_212 : decode cX11_isSo 212 = .ok (.iaload, 1) := by decide +kernel
theorem dX11_isSo_213 : decode cX11_isSo 213 = .ok (.iload 7, 2) := by decide +kernel
theorem dX11_isSo_215 : decode cX11_isSo 215 = .ok (.if_icmp .eq 7, 3) := by decide +kernel
theorem dX11_isSo_218 : decode cX11_isSo 218 = .ok (.iconst 1, 1) := by decide +kernel
theorem dX11_isSo_219 : decode cX11_isSo 219 = .ok (.goto 4, 3) := by decide +kernel
theorem dX11_isSo_222 : decode cX11_isSo 222 = .ok (.iconst 0, 1) := by decide +kernel
theorem dX11_isSo_223 : decode cX11_isSo 223 = .ok (.istore 5, 2) := by decide +kernel
theorem dX11_isSo_225 : decode cX11_isSo 225 = .ok (.goto 22, 3) := by decide +kernel
theorem dX11_isSo_228 : decode cX11_isSo 228 = .ok (.iload 5, 2) := by decide +kernel
theorem dX11_isSo_230 : decode cX11_isSo 230 = .ok (.ifCond .eq 14, 3) := by decide +kernel
theorem dX11_isSo_233 : decode cX11_isSo 233 = .ok (.iload 4, 2) := by decide +kernel
theorem dX11_isSo_235 : decode cX11_isSo 235 = .ok (.iload 7, 2) := by decide +kernel
theorem dX11_isSo_237 : decode cX11_isSo 237 = .ok (.if_icmp .lt 7, 3) := by decide +kernel
theorem dX11_isSo_240 : decode cX11_isSo 240 = .ok (.iconst 1, 1) := by decide +kernel
theorem dX11_isSo_241 : decode cX11_isSo 241 = .ok (.goto 4, 3) := by decide +kernel
theorem dX11_isSo_244 : decode cX11_isSo 244 = .ok (.iconst 0, 1) := by decide +kernel
theorem dX11_isSo_245 : decode cX11_isSo 245 = .ok (.istore 5, 2) := by decide +kernel
theorem dX11_isSo_247 : decode cX11_isSo 247 = .ok (.iinc 6 1, 3) := by decide +kernel
theorem dX11_isSo_250 : decode cX11_isSo 250 = .ok (.goto (-244), 3) := by decide +kernel
theorem dX11_isSo_253 : decode cX11_isSo 253 = .ok (.iload 5, 2) := by decide +kernel
theorem dX11_isSo_255 : decode cX11_isSo 255 = .ok (.ireturn, 1) := by decide +kernel
theorem dX11_enters_0 : decode cX11_enters 0 = .ok (.aload_n 0, 1) := by decide +kernel
theorem dX11_enters_1 : decode cX11_enters 1 = .ok (.iload_n 1, 1) := by decide +kernel
theorem dX11_enters_2 : decode cX11_enters 2 = .ok (.putfield 165, 3) := by decide +kernel
theorem dX11_enters_5 : decode cX11_enters 5 = .ok (.aload_n 0, 1) := by decide +kernel
theorem dX11_enters_6 : decode cX11_enters 6 = .ok (.iload_n 2, 1) := by decide +kernel
theorem dX11_enters_7 : decode cX11_enters 7 = .ok (.putfield 168, 3) := by decide +kernel
theorem dX11_enters_10 : decode cX11_enters 10 = .ok (.aload_n 0, 1) := by decide +kernel
theorem dX11_enters_11 : decode cX11_enters 11 = .ok (.getfield 28, 3) := by decide +kernel
theorem dX11_enters_14 : decode cX11_enters 14 = .ok (.iconst 0, 1) := by decide +kernel
theorem dX11_enters_15 : decode cX11_enters 15 = .ok (.iconst 0, 1) := by decide +kernel
theorem dX11_enters_16 : decode cX11_enters 16 = .ok (.iastore, 1) := by decide +kernel
theorem dX11_enters_17 : decode cX11_enters 17 = .ok (.aload_n 0, 1) := by decide +kernel
theorem dX11_enters_18 : decode cX11_enters 18 = .ok (.getfield 28, 3) := by decide +kernel
theorem dX11_enters_21 : decode cX11_enters 21 = .ok (.iconst 1, 1) := by decide +kernel
theorem dX11_enters_22 : decode cX11_enters 22 = .ok (.iconst 0, 1) := by decide +kernel
theorem dX11_enters_23 : decode cX11_enters 23 = .ok (.iastore, 1) := by decide +kernel
theorem dX11_enters_24 : decode cX11_enters 24 = .ok (.aload_n 0, 1) := by decide +kernel
theorem dX11_enters_25 : decode cX11_enters 25 = .ok (.getfield 28, 3) := by decide +kernel
theorem dX11_enters_28 : decode cX11_enters 28 = .ok (.iconst 2, 1) := by decide +kernel
theorem dX11_enters_29 : decode cX11_enters 29 = .ok (.iconst 0, 1) := by decide +kernel
theorem dX11_enters_30 : decode cX11_enters 30 = .ok (.iastore, 1) := by decide +kernel
theorem dX11_enters_31 : decode cX11_enters 31 = .ok (.return_, 1) := by decide +kernel
theorem dX11_sample_0 : decode cX11_sample 0 = .ok (.aload_n 0, 1) := by decide +kernel
theorem dX11_sample_1 : decode cX11_sample 1 = .ok (.getfield 165, 3) := by decide +kernel
theorem dX11_sample_4 : decode cX11_sample 4 = .ok (.istore_n 2, 1) := by decide +kernel
theorem dX11_sample_5 : decode cX11_sample 5 = .ok (.iconst 1, 1) := by decide +kernel
theorem dX11_sample_6 : decode cX11_sample 6 = .ok (.istore_n 3, 1) := by decide +kernel
theorem dX11_sample_7 : decode cX11_sample 7 = .ok (.aload_n 0, 1) := by decide +kernel
theorem dX11_sample_8 : decode cX11_sample 8 = .ok (.dup, 1) := by decide +kernel
theorem dX11_sample_9 : decode cX11_sample 9 = .ok (.getfield 171, 3) := by decide +kernel
theorem dX11_sample_12 : decode cX11_sample 12 = .ok (.iconst 1, 1) := by decide +kernel
theorem dX11_sample_13 : decode cX11_sample 13 = .ok (.iadd, 1) := by decide +kernel
theorem dX11_sample_14 : decode cX11_sample 14 = .ok (.putfield 171, 3) := by decide +kernel
theorem dX11_sample_17 : decode cX11_sample 17 = .ok (.iconst 0, 1) := by decide +kernel
theorem dX11_sample_18 : decode cX11_sample 18 = .ok (.istore 4, 2) := by decide +kernel
theorem dX11_sample_20 : decode cX11_sample 20 = .ok (.iload 4, 2) := by decide +kernel
theorem dX11_sample_22 : decode cX11_sample 22 = .ok (.aload_n 0, 1) := by decide +kernel
theorem dX11_sample_23 : decode cX11_sample 23 = .ok (.getfield 7, 3) := by decide +kernel
theorem dX11_sample_26 : decode cX11_sample 26 = .ok (.sipush 222, 3) := by decide +kernel
theorem dX11_sample_29 : decode cX11_sample 29 = .ok (.iload_n 2, 1) := by decide +kernel
theorem dX11_sample_30 : decode cX11_sample 30 = .ok (.iadd, 1) := by decide +kernel
theorem dX11_sample_31 : decode cX11_sample 31 = .ok (.iaload, 1) := by decide +kernel
theorem dX11_sample_32 : decode cX11_sample 32 = .ok (.if_icmp .ge 137, 3) := by decide +kernel
theorem dX11_sample_35 : decode cX11_sample 35 = .ok (.iload_n 3, 1) := by decide +kernel
theorem dX11_sample_36 : decode cX11_sample 36 = .ok (.ifCond .eq 133, 3) := by decide +kernel
theorem dX11_sample_39 : decode cX11_sample 39 = .ok (.iconst 3, 1) := by decide +kernel
theorem dX11_sample_40 : decode cX11_sample 40 = .ok (.iload_n 2, 1) := by decide +kernel
theorem dX11_sample_41 : decode cX11_sample 41 = .ok (.imul, 1) := by decide +kernel
theorem dX11_sample_42 : decode cX11_sample 42 = .ok (.iload 4, 2) := by decide +kernel
theorem dX11_sample_44 : decode cX11_sample 44 = .ok (.iadd, 1) := by decide +kernel
theorem dX11_sample_45 : decode cX11_sample 45 = .ok (.istore 5, 2) := by decide +kernel
theorem dX11_sample_47 : decode cX11_sample 47 = .ok (.aload_n 0, 1) := by decide +kernel
theorem dX11_sample_48 : decode cX11_sample 48 = .ok (.iconst 3, 1) := by decide +kernel
theorem dX11_sample_49 : decode cX11_sample 49 = .ok (.iload 5, 2) := by decide +kernel
theorem dX11_sample_51 : decode cX11_sample 51 = .ok (.imul, 1) := by decide +kernel
theorem dX11_sample_52 : decode cX11_sample 52 = .ok (.aload_n 0, 1) := by decide +kernel
theorem dX11_sample_53 : decode cX11_sample 53 = .ok (.getfield 7, 3) := by decide +kernel
theorem dX11_sample_56 : decode cX11_sample 56 = .ok (.iconst 0, 1) := by decide +kernel
theorem dX11_sample_57 : decode cX11_sample 57 = .ok (.iload 5, 2) := by decide +kernel
theorem dX11_sample_59 : decode cX11_sample 59 = .ok (.iadd, 1) := by decide +kernel
theorem dX11_sample_60 : decode cX11_sample 60 = .ok (.iaload, 1) := by decide +kernel
theorem dX11_sample_61 : decode cX11_sample 61 = .ok (.iload_n 1, 1) := by decide +kernel
theorem dX11_sample_62 : decode cX11_sample 62 = .ok (.iload_n 1, 1) := by decide +kernel
theorem dX11_sample_63 : decode cX11_sample 63 = .ok (.aload_n 0, 1) := by decide +kernel
theorem dX11_sample_64 : decode cX11_sample 64 = .ok (.getfield 168, 3) := by decide +kernel
theorem dX11_sample_67 : decode cX11_sample 67 = .ok (.isub, 1) := by decide +kernel
theorem dX11_sample_68 : decode cX11_sample 68 = .ok (.invokevirtual 174, 3) := by decide +kernel
theorem dX11_sample_71 : decode cX11_sample 71 = .ok (.ifCond .eq 92, 3) := by decide +kernel
theorem dX11_sample_74 : decode cX11_sample 74 = .ok (.aload_n 0, 1) := by decide +kernel
theorem dX11_sample_75 : decode cX11_sample 75 = .ok (.getfield 28, 3) := by decide +kernel
theorem dX11_sample_78 : decode cX11_sample 78 = .ok (.iload 4, 2) := by decide +kernel
theorem dX11_sample_80 : decode cX11_sample 80 = .ok (.dup2, 1) := by decide +kernel
theorem dX11_sample_81 : decode cX11_sample 81 = .ok (.iaload, 1) := by decide +kernel
theorem dX11_sample_82 : decode cX11_sample 82 = .ok (.iconst 1, 1) := by decide +kernel
theorem dX11_sample_83 : decode cX11_sample 83 = .ok (.iadd, 1) := by decide +kernel
theorem dX11_sample_84 : decode cX11_sample 84 = .ok (.iastore, 1) := by decide +kernel
theorem dX11_sample_85 : decode cX11_sample 85 = .ok (.aload_n 0, 1) := by decide +kernel
theorem dX11_sample_86 : decode cX11_sample 86 = .ok (.getfield 28, 3) := by decide +kernel
theorem dX11_sample_89 : decode cX11_sample 89 = .ok (.iload 4, 2) := by decide +kernel
theorem dX11_sample_91 : decode cX11_sample 91 = .ok (.iaload, 1) := by decide +kernel
theorem dX11_sample_92 : decode cX11_sample 92 = .ok (.aload_n 0, 1) := by decide +kernel
theorem dX11_sample_93 : decode cX11_sample 93 = .ok (.getfield 7, 3) := by decide +kernel
theorem dX11_sample_96 : decode cX11_sample 96 = .ok (.bipush 24, 2) := by decide +kernel
theorem dX11_sample_98 : decode cX11_sample 98 = .ok (.iload 5, 2) := by decide +kernel
theorem dX11_sample_100 : decode cX11_sample 100 = .ok (.iadd, 1) := by decide +kernel
theorem dX11_sample_101 : decode cX11_sample 101 = .ok (.iaload, 1) := by decide +kernel
theorem dX11_sample_102 : decode cX11_sample 102 = .ok (.if_icmp .ne 61, 3) := by decide +kernel
theorem dX11_sample_105 : decode cX11_sample 105 = .ok (.iconst 0, 1) := by decide +kernel
theorem dX11_sample_106 : decode cX11_sample 106 = .ok (.istore_n 3, 1) := by decide +kernel
theorem dX11_sample_107 : decode cX11_sample 107 = .ok (.aload_n 0, 1) := by decide +kernel
theorem dX11_sample_108 : decode cX11_sample 108 = .ok (.getfield 7, 3) := by decide +kernel
theorem dX11_sample_111 : decode cX11_sample 111 = .ok (.bipush 48, 2) := by decide +kernel
theorem dX11_sample_113 : decode cX11_sample 113 = .ok (.iload 5, 2) := by decide +kernel
theorem dX11_sample_115 : decode cX11_sample 115 = .ok (.iadd, 1) := by decide +kernel
theorem dX11_sample_116 : decode cX11_sample 116 = .ok (.iaload, 1) := by decide +kernel
theorem dX11_sample_117 : decode cX11_sample 117 = .ok (.bipush 8, 2) := by decide +kernel
theorem dX11_sample_119 : decode cX11_sample 119 = .ok (.if_icmp .ne 17, 3) := by decide +kernel
theorem dX11_sample_122 : decode cX11_sample 122 = .ok (.aload_n 0, 1) := by decide +kernel
theorem dX11_sample_123 : decode cX11_sample 123 = .ok (.iload_n 1, 1) := by decide +kernel
theorem dX11_sample_124 : decode cX11_sample 124 = .ok (.putfield 178, 3) := by decide +kernel
theorem dX11_sample_127 : decode cX11_sample 127 = .ok (.aload_n 0, 1) := by decide +kernel
theorem dX11_sample_128 : decode cX11_sample 128 = .ok (.bipush 8, 2) := by decide +kernel
theorem dX11_sample_130 : decode cX11_sample 130 = .ok (.putfield 165, 3) := by decide +kernel
theorem dX11_sample_133 : decode cX11_sample 133 = .ok (.goto 30, 3) := by decide +kernel
theorem dX11_sample_136 : decode cX11_sample 136 = .ok (.aload_n 0, 1) := by decide +kernel
theorem dX11_sample_137 : decode cX11_sample 137 = .ok (.aload_n 0, 1) := by decide +kernel
theorem dX11_sample_138 : decode cX11_sample 138 = .ok (.getfield 7, 3) := by decide +kernel
theorem dX11_sample_141 : decode cX11_sample 141 = .ok (.bipush 48, 2) := by decide +kernel
theorem dX11_sample_143 : decode cX11_sample 143 = .ok (.iload 5, 2) := by decide +kernel
theorem dX11_sample_145 : decode cX11_sample 145 = .ok (.iadd, 1) := by decide +kernel
theorem dX11_sample_146 : decode cX11_sample 146 = .ok (.iaload, 1) := by decide +kernel
theorem dX11_sample_147 : decode cX11_sample 147 = .ok (.iload_n 1, 1) := by decide +kernel
theorem dX11_sample_148 : decode cX11_sample 148 = .ok (.iconst 1, 1) := by decide +kernel
theorem dX11_sample_149 : decode cX11_sample 149 = .ok (.iadd, 1) := by decide +kernel
theorem dX11_sample_150 : decode cX11_sample 150 = .ok (.invokevirtual 181, 3) := by decide +kernel
theorem dX11_sample_153 : decode cX11_sample 153 = .ok (.aload_n 0, 1) := by decide +kernel
theorem dX11_sample_154 : decode cX11_sample 154 = .ok (.dup, 1) := by decide +kernel
theorem dX11_sample_155 : decode cX11_sample 155 = .ok (.getfield 185, 3) := by decide +kernel
theorem dX11_sample_158 : decode cX11_sample 158 = .ok (.iconst 1, 1) := by decide +kernel
theorem dX11_sample_159 : decode cX11_sample 159 = .ok (.iadd, 1) := by decide +kernel
theorem dX11_sample_160 : decode cX11_sample 160 = .ok (.putfield 185, 3) := by decide +kernel
theorem dX11_sample_163 : decode cX11_sample 163 = .ok (.iinc 4 1, 3) := by decide +kernel
theorem dX11_sample_166 : decode cX11_sample 166 = .ok (.goto (-146), 3) := by decide +kernel
theorem dX11_sample_169 : decode cX11_sample 169 = .ok (.return_, 1) := by decide +kernel
theorem dX11_runs0_0 : decode cX11_runs0 0 = .ok (.aload_n 0, 1) := by decide +kernel
theorem dX11_runs0_1 : decode cX11_runs0 1 = .ok (.bipush (-4), 2) := by decide +kernel
theorem dX11_runs0_3 : decode cX11_runs0 3 = .ok (.putfield 178, 3) := by decide +kernel
theorem dX11_runs0_6 : decode cX11_runs0 6 = .ok (.aload_n 0, 1) := by decide +kernel
theorem dX11_runs0_7 : decode cX11_runs0 7 = .ok (.iconst 0, 1) := by decide +kernel
theorem dX11_runs0_8 : decode cX11_runs0 8 = .ok (.putfield 185, 3) := by decide +kernel
theorem dX11_runs0_11 : decode cX11_runs0 11 = .ok (.aload_n 0, 1) := by decide +kernel
theorem dX11_runs0_12 : decode cX11_runs0 12 = .ok (.iconst 0, 1) := by decide +kernel
theorem dX11_runs0_13 : decode cX11_runs0 13 = .ok (.putfield 171, 3) := by decide +kernel
theorem dX11_runs0_16 : decode cX11_runs0 16 = .ok (.aload_n 0, 1) := by decide +kernel
theorem dX11_runs0_17 : decode cX11_runs0 17 = .ok (.iconst 0, 1) := by decide +kernel
theorem dX11_runs0_18 : decode cX11_runs0 18 = .ok (.iconst 0, 1) := by decide +kernel
theorem dX11_runs0_19 : decode cX11_runs0 19 = .ok (.invokevirtual 181, 3) := by decide +kernel
theorem dX11_runs0_22 : decode cX11_runs0 22 = .ok (.iconst 0, 1) := by decide +kernel
theorem dX11_runs0_23 : decode cX11_runs0 23 = .ok (.istore_n 2, 1) := by decide +kernel
theorem dX11_runs0_24 : decode cX11_runs0 24 = .ok (.iload_n 2, 1) := by decide +kernel
theorem dX11_runs0_25 : decode cX11_runs0 25 = .ok (.iload_n 1, 1) := by decide +kernel
theorem dX11_runs0_26 : decode cX11_runs0 26 = .ok (.if_icmp .gt 34, 3) := by decide +kernel
theorem dX11_runs0_29 : decode cX11_runs0 29 = .ok (.aload_n 0, 1) := by decide +kernel
theorem dX11_runs0_30 : decode cX11_runs0 30 = .ok (.getfield 178, 3) := by decide +kernel
theorem dX11_runs0_33 : decode cX11_runs0 33 = .ok (.bipush (-4), 2) := by decide +kernel
theorem dX11_runs0_35 : decode cX11_runs0 35 = .ok (.if_icmp .ne 25, 3) := by decide +kernel
theorem dX11_runs0_38 : decode cX11_runs0 38 = .ok (.aload_n 0, 1) := by decide +kernel
theorem dX11_runs0_39 : decode cX11_runs0 39 = .ok (.getfield 7, 3) := by decide +kernel
theorem dX11_runs0_42 : decode cX11_runs0 42 = .ok (.sipush 230, 3) := by decide +kernel
theorem dX11_runs0_45 : decode cX11_runs0 45 = .ok (.iaload, 1) := by decide +kernel
theorem dX11_runs0_46 : decode cX11_runs0 46 = .ok (.ifCond .le 14, 3) := by decide +kernel
theorem dX11_runs0_49 : decode cX11_runs0 49 = .ok (.aload_n 0, 1) := by decide +kernel
theorem dX11_runs0_50 : decode cX11_runs0 50 = .ok (.iload_n 2, 1) := by decide +kernel
theorem dX11_runs0_51 : decode cX11_runs0 51 = .ok (.invokevirtual 188, 3) := by decide +kernel
theorem dX11_runs0_54 : decode cX11_runs0 54 = .ok (.iinc 2 1, 3) := by decide +kernel
theorem dX11_runs0_57 : decode cX11_runs0 57 = .ok (.goto (-33), 3) := by decide +kernel
theorem dX11_runs0_60 : decode cX11_runs0 60 = .ok (.return_, 1) := by decide +kernel
theorem dX11_run_0 : decode cX11_run 0 = .ok (.iload_n 1, 1) := by decide +kernel
theorem dX11_run_1 : decode cX11_run 1 = .ok (.i2l, 1) := by decide +kernel
theorem dX11_run_2 : decode cX11_run 2 = .ok (.lconst 0, 1) := by decide +kernel
theorem dX11_run_3 : decode cX11_run 3 = .ok (.ldc2_w 191, 3) := by decide +kernel
theorem dX11_run_6 : decode cX11_run 6 = .ok (.invokestatic 58, 3) := by decide +kernel
theorem dX11_run_9 : decode cX11_run 9 = .ok (.ifCond .ne 5, 3) := by decide +kernel
theorem dX11_run_12 : decode cX11_run 12 = .ok (.iconst (-1), 1) := by decide +kernel
theorem dX11_run_13 : decode cX11_run 13 = .ok (.ireturn, 1) := by decide +kernel
theorem dX11_run_14 : decode cX11_run 14 = .ok (.aload_n 0, 1) := by decide +kernel
theorem dX11_run_15 : decode cX11_run 15 = .ok (.getfield 7, 3) := by decide +kernel
theorem dX11_run_18 : decode cX11_run 18 = .ok (.sipush 230, 3) := by decide +kernel
theorem dX11_run_21 : decode cX11_run 21 = .ok (.iaload, 1) := by decide +kernel
theorem dX11_run_22 : decode cX11_run 22 = .ok (.ifCond .ne 6, 3) := by decide +kernel
theorem dX11_run_25 : decode cX11_run 25 = .ok (.bipush (-2), 2) := by decide +kernel
theorem dX11_run_27 : decode cX11_run 27 = .ok (.ireturn, 1) := by decide +kernel
theorem dX11_run_28 : decode cX11_run 28 = .ok (.aload_n 0, 1) := by decide +kernel
theorem dX11_run_29 : decode cX11_run 29 = .ok (.aload_n 0, 1) := by decide +kernel
theorem dX11_run_30 : decode cX11_run 30 = .ok (.getfield 144, 3) := by decide +kernel
theorem dX11_run_33 : decode cX11_run 33 = .ok (.iconst 1, 1) := by decide +kernel
theorem dX11_run_34 : decode cX11_run 34 = .ok (.isub, 1) := by decide +kernel
theorem dX11_run_35 : decode cX11_run 35 = .ok (.invokevirtual 193, 3) := by decide +kernel
theorem dX11_run_38 : decode cX11_run 38 = .ok (.iload_n 1, 1) := by decide +kernel
theorem dX11_run_39 : decode cX11_run 39 = .ok (.ifCond .ne 10, 3) := by decide +kernel
theorem dX11_run_42 : decode cX11_run 42 = .ok (.aload_n 0, 1) := by decide +kernel
theorem dX11_run_43 : decode cX11_run 43 = .ok (.getfield 178, 3) := by decide +kernel
theorem dX11_run_46 : decode cX11_run 46 = .ok (.goto 31, 3) := by decide +kernel
theorem dX11_run_49 : decode cX11_run 49 = .ok (.iload_n 1, 1) := by decide +kernel
theorem dX11_run_50 : decode cX11_run 50 = .ok (.iconst 1, 1) := by decide +kernel
theorem dX11_run_51 : decode cX11_run 51 = .ok (.if_icmp .ne 10, 3) := by decide +kernel
theorem dX11_run_54 : decode cX11_run 54 = .ok (.aload_n 0, 1) := by decide +kernel
theorem dX11_run_55 : decode cX11_run 55 = .ok (.getfield 165, 3) := by decide +kernel
theorem dX11_run_58 : decode cX11_run 58 = .ok (.goto 19, 3) := by decide +kernel
theorem dX11_run_61 : decode cX11_run 61 = .ok (.iload_n 1, 1) := by decide +kernel
theorem dX11_run_62 : decode cX11_run 62 = .ok (.iconst 2, 1) := by decide +kernel
theorem dX11_run_63 : decode cX11_run 63 = .ok (.if_icmp .ne 10, 3) := by decide +kernel
theorem dX11_run_66 : decode cX11_run 66 = .ok (.aload_n 0, 1) := by decide +kernel
theorem dX11_run_67 : decode cX11_run 67 = .ok (.getfield 185, 3) := by decide +kernel
theorem dX11_run_70 : decode cX11_run 70 = .ok (.goto 7, 3) := by decide +kernel
theorem dX11_run_73 : decode cX11_run 73 = .ok (.aload_n 0, 1) := by decide +kernel
theorem dX11_run_74 : decode cX11_run 74 = .ok (.getfield 171, 3) := by decide +kernel
theorem dX11_run_77 : decode cX11_run 77 = .ok (.ireturn, 1) := by decide +kernel
theorem dX11_state_0 : decode cX11_state 0 = .ok (.aload_n 0, 1) := by decide +kernel
theorem dX11_state_1 : decode cX11_state 1 = .ok (.iload_n 1, 1) := by decide +kernel
theorem dX11_state_2 : decode cX11_state 2 = .ok (.invokevirtual 152, 3) := by decide +kernel
theorem dX11_state_5 : decode cX11_state 5 = .ok (.ifCond .ne 5, 3) := by decide +kernel
theorem dX11_state_8 : decode cX11_state 8 = .ok (.iconst (-1), 1) := by decide +kernel
theorem dX11_state_9 : decode cX11_state 9 = .ok (.ireturn, 1) := by decide +kernel
theorem dX11_state_10 : decode cX11_state 10 = .ok (.aload_n 0, 1) := by decide +kernel
theorem dX11_state_11 : decode cX11_state 11 = .ok (.getfield 7, 3) := by decide +kernel
theorem dX11_state_14 : decode cX11_state 14 = .ok (.sipush 230, 3) := by decide +kernel
theorem dX11_state_17 : decode cX11_state 17 = .ok (.iaload, 1) := by decide +kernel
theorem dX11_state_18 : decode cX11_state 18 = .ok (.ifCond .ne 6, 3) := by decide +kernel
theorem dX11_state_21 : decode cX11_state 21 = .ok (.bipush (-2), 2) := by decide +kernel
theorem dX11_state_23 : decode cX11_state 23 = .ok (.ireturn, 1) := by decide +kernel
theorem dX11_state_24 : decode cX11_state 24 = .ok (.aload_n 0, 1) := by decide +kernel
theorem dX11_state_25 : decode cX11_state 25 = .ok (.iload_n 1, 1) := by decide +kernel
theorem dX11_state_26 : decode cX11_state 26 = .ok (.invokevirtual 193, 3) := by decide +kernel
theorem dX11_state_29 : decode cX11_state 29 = .ok (.aload_n 0, 1) := by decide +kernel
theorem dX11_state_30 : decode cX11_state 30 = .ok (.getfield 165, 3) := by decide +kernel
theorem dX11_state_33 : decode cX11_state 33 = .ok (.ireturn, 1) := by decide +kernel
theorem dX11_isKept_0 : decode cX11_isKept 0 = .ok (.aload_n 0, 1) := by decide +kernel
theorem dX11_isKept_1 : decode cX11_isKept 1 = .ok (.bipush 72, 2) := by decide +kernel
theorem dX11_isKept_3 : decode cX11_isKept 3 = .ok (.aload_n 0, 1) := by decide +kernel
theorem dX11_isKept_4 : decode cX11_isKept 4 = .ok (.getfield 7, 3) := by decide +kernel
theorem dX11_isKept_7 : decode cX11_isKept 7 = .ok (.sipush 231, 3) := by decide +kernel
theorem dX11_isKept_10 : decode cX11_isKept 10 = .ok (.iaload, 1) := by decide +kernel
theorem dX11_isKept_11 : decode cX11_isKept 11 = .ok (.iload_n 1, 1) := by decide +kernel
theorem dX11_isKept_12 : decode cX11_isKept 12 = .ok (.iload_n 1, 1) := by decide +kernel
theorem dX11_isKept_13 : decode cX11_isKept 13 = .ok (.invokevirtual 174, 3) := by decide +kernel
theorem dX11_isKept_16 : decode cX11_isKept 16 = .ok (.ireturn, 1) := by decide +kernel
theorem dX11_stored_0 : decode cX11_stored 0 = .ok (.iload_n 1, 1) := by decide +kernel
theorem dX11_stored_1 : decode cX11_stored 1 = .ok (.i2l, 1) := by decide +kernel
theorem dX11_stored_2 : decode cX11_stored 2 = .ok (.lconst 0, 1) := by decide +kernel
theorem dX11_stored_3 : decode cX11_stored 3 = .ok (.ldc2_w 138, 3) := by decide +kernel
theorem dX11_stored_6 : decode cX11_stored 6 = .ok (.invokestatic 58, 3) := by decide +kernel
theorem dX11_stored_9 : decode cX11_stored 9 = .ok (.ifCond .ne 19, 3) := by decide +kernel
theorem dX11_stored_12 : decode cX11_stored 12 = .ok (.iload_n 1, 1) := by decide +kernel
theorem dX11_stored_13 : decode cX11_stored 13 = .ok (.i2l, 1) := by decide +kernel
theorem dX11_stored_14 : decode cX11_stored 14 = .ok (.ldc2_w 140, 3) := by decide +kernel
theorem dX11_stored_17 : decode cX11_stored 17 = .ok (.ldc2_w 196, 3) := by decide +kernel
theorem dX11_stored_20 : decode cX11_stored 20 = .ok (.invokestatic 58, 3) := by decide +kernel
theorem dX11_stored_23 : decode cX11_stored 23 = .ok (.ifCond .ne 5, 3) := by decide +kernel
theorem dX11_stored_26 : decode cX11_stored 26 = .ok (.iconst (-1), 1) := by decide +kernel
theorem dX11_stored_27 : decode cX11_stored 27 = .ok (.ireturn, 1) := by decide +kernel
theorem dX11_stored_28 : decode cX11_stored 28 = .ok (.aload_n 0, 1) := by decide +kernel
theorem dX11_stored_29 : decode cX11_stored 29 = .ok (.aload_n 0, 1) := by decide +kernel
theorem dX11_stored_30 : decode cX11_stored 30 = .ok (.getfield 144, 3) := by decide +kernel
theorem dX11_stored_33 : decode cX11_stored 33 = .ok (.iconst 1, 1) := by decide +kernel
theorem dX11_stored_34 : decode cX11_stored 34 = .ok (.isub, 1) := by decide +kernel
theorem dX11_stored_35 : decode cX11_stored 35 = .ok (.invokevirtual 193, 3) := by decide +kernel
theorem dX11_stored_38 : decode cX11_stored 38 = .ok (.aload_n 0, 1) := by decide +kernel
theorem dX11_stored_39 : decode cX11_stored 39 = .ok (.getfield 178, 3) := by decide +kernel
theorem dX11_stored_42 : decode cX11_stored 42 = .ok (.bipush (-4), 2) := by decide +kernel
theorem dX11_stored_44 : decode cX11_stored 44 = .ok (.if_icmp .ne 6, 3) := by decide +kernel
theorem dX11_stored_47 : decode cX11_stored 47 = .ok (.bipush (-4), 2) := by decide +kernel
theorem dX11_stored_49 : decode cX11_stored 49 = .ok (.ireturn, 1) := by decide +kernel
theorem dX11_stored_50 : decode cX11_stored 50 = .ok (.iconst 0, 1) := by decide +kernel
theorem dX11_stored_51 : decode cX11_stored 51 = .ok (.istore_n 2, 1) := by decide +kernel
theorem dX11_stored_52 : decode cX11_stored 52 = .ok (.bipush (-4), 2) := by decide +kernel
theorem dX11_stored_54 : decode cX11_stored 54 = .ok (.istore_n 3, 1) := by decide +kernel
theorem dX11_stored_55 : decode cX11_stored 55 = .ok (.bipush (-4), 2) := by decide +kernel
theorem dX11_stored_57 : decode cX11_stored 57 = .ok (.istore 4, 2) := by decide +kernel
theorem dX11_stored_59 : decode cX11_stored 59 = .ok (.iconst (-1), 1) := by decide +kernel
theorem dX11_stored_60 : decode cX11_stored 60 = .ok (.istore 5, 2) := by decide +kernel
theorem dX11_stored_62 : decode cX11_stored 62 = .ok (.aload_n 0, 1) := by decide +kernel
theorem dX11_stored_63 : decode cX11_stored 63 = .ok (.getfield 178, 3) := by decide +kernel
theorem dX11_stored_66 : decode cX11_stored 66 = .ok (.aload_n 0, 1) := by decide +kernel
theorem dX11_stored_67 : decode cX11_stored 67 = .ok (.getfield 7, 3) := by decide +kernel
theorem dX11_stored_70 : decode cX11_stored 70 = .ok (.sipush 233, 3) := by decide +kernel
theorem dX11_stored_73 : decode cX11_stored 73 = .ok (.iaload, 1) := by decide +kernel
theorem dX11_stored_74 : decode cX11_stored 74 = .ok (.isub, 1) := by decide +kernel
theorem dX11_stored_75 : decode cX11_stored 75 = .ok (.istore 6, 2) := by decide +kernel
theorem dX11_stored_77 : decode cX11_stored 77 = .ok (.iload 6, 2) := by decide +kernel
theorem dX11_stored_79 : decode cX11_stored 79 = .ok (.ifCond .ge 7, 3) := by decide +kernel
theorem dX11_stored_82 : decode cX11_stored 82 = .ok (.iconst 0, 1) := by decide +kernel
theorem dX11_stored_83 : decode cX11_stored 83 = .ok (.goto 5, 3) := by decide +kernel
theorem dX11_stored_86 : decode cX11_stored 86 = .ok (.iload 6, 2) := by decide +kernel
theorem dX11_stored_88 : decode cX11_stored 88 = .ok (.istore 7, 2) := by decide +kernel
theorem dX11_stored_90 : decode cX11_stored 90 = .ok (.iload 7, 2) := by decide +kernel
theorem dX11_stored_92 : decode cX11_stored 92 = .ok (.aload_n 0, 1) := by decide +kernel
theorem dX11_stored_93 : decode cX11_stored 93 = .ok (.getfield 144, 3) := by decide +kernel
theorem dX11_stored_96 : decode cX11_stored 96 = .ok (.iload 6, 2) := by decide +kernel
theorem dX11_stored_98 : decode cX11_stored 98 = .ok (.aload_n 0, 1) := by decide +kernel
theorem dX11_stored_99 : decode cX11_stored 99 = .ok (.getfield 7, 3) := by decide +kernel
theorem dX11_stored_102 : decode cX11_stored 102 = .ok (.sipush 232, 3) := by decide +kernel
theorem dX11_stored_105 : decode cX11_stored 105 = .ok (.iaload, 1) := by decide +kernel
theorem dX11_stored_106 : decode cX11_stored 106 = .ok (.iadd, 1) := by decide +kernel
theorem dX11_stored_107 : decode cX11_stored 107 = .ok (.invokestatic 198, 3) := by decide +kernel
theorem dX11_stored_110 : decode cX11_stored 110 = .ok (.if_icmp .ge 55, 3) := by decide +kernel
theorem dX11_stored_113 : decode cX11_stored 113 = .ok (.aload_n 0, 1) := by decide +kernel
theorem dX11_stored_114 : decode cX11_stored 114 = .ok (.iload 7, 2) := by decide +kernel
theorem dX11_stored_116 : decode cX11_stored 116 = .ok (.invokevirtual 201, 3) := by decide +kernel
theorem dX11_stored_119 : decode cX11_stored 119 = .ok (.ifCond .eq 40, 3) := by decide +kernel
theorem dX11_stored_122 : decode cX11_stored 122 = .ok (.iload_n 3, 1) := by decide +kernel
theorem dX11_stored_123 : decode cX11_stored 123 = .ok (.bipush (-4), 2) := by decide +kernel
theorem dX11_stored_125 : decode cX11_stored 125 = .ok (.if_icmp .ne 8, 3) := by decide +kernel
theorem dX11_stored_128 : decode cX11_stored 128 = .ok (.iload 7, 2) := by decide +kernel
theorem dX11_stored_130 : decode cX11_stored 130 = .ok (.goto 4, 3) := by decide +kernel
theorem dX11_stored_133 : decode cX11_stored 133 = .ok (.iload_n 3, 1) := by decide +kernel
theorem dX11_stored_134 : decode cX11_stored 134 = .ok (.istore_n 3, 1) := by decide +kernel
theorem dX11_stored_135 : decode cX11_stored 135 = .ok (.iload 7, 2) := by decide +kernel
theorem dX11_stored_137 : decode cX11_stored 137 = .ok (.istore 4, 2) := by decide +kernel
theorem dX11_stored_139 : decode cX11_stored 139 = .ok (.iload_n 2, 1) := by decide +kernel
theorem dX11_stored_140 : decode cX11_stored 140 = .ok (.iload_n 1, 1) := by decide +kernel
theorem dX11_stored_141 : decode cX11_stored 141 = .ok (.bipush 10, 2) := by decide +kernel
theorem dX11_stored_143 : decode cX11_stored 143 = .ok (.isub, 1) := by decide +kernel
theorem dX11_stored_144 : decode cX11_stored 144 = .ok (.if_icmp .ne 8, 3) := by decide +kernel
theorem dX11_stored_147 : decode cX11_stored 147 = .ok (.iload 7, 2) := by decide +kernel
theorem dX11_stored_149 : decode cX11_stored 149 = .ok (.goto 5, 3) := by decide +kernel
theorem dX11_stored_152 : decode cX11_stored 152 = .ok (.iload 5, 2) := by decide +kernel
theorem dX11_stored_154 : decode cX11_stored 154 = .ok (.istore 5, 2) := by decide +kernel
theorem dX11_stored_156 : decode cX11_stored 156 = .ok (.iinc 2 1, 3) := by decide +kernel
theorem dX11_stored_159 : decode cX11_stored 159 = .ok (.iinc 7 1, 3) := by decide +kernel
theorem dX11_stored_162 : decode cX11_stored 162 = .ok (.goto (-72), 3) := by decide +kernel
theorem dX11_stored_165 : decode cX11_stored 165 = .ok (.iload_n 1, 1) := by decide +kernel
theorem dX11_stored_166 : decode cX11_stored 166 = .ok (.ifCond .ne 7, 3) := by decide +kernel
theorem dX11_stored_169 : decode cX11_stored 169 = .ok (.iload_n 2, 1) := by decide +kernel
theorem dX11_stored_170 : decode cX11_stored 170 = .ok (.goto 24, 3) := by decide +kernel
theorem dX11_stored_173 : decode cX11_stored 173 = .ok (.iload_n 1, 1) := by decide +kernel
theorem dX11_stored_174 : decode cX11_stored 174 = .ok (.iconst 1, 1) := by decide +kernel
theorem dX11_stored_175 : decode cX11_stored 175 = .ok (.if_icmp .ne 7, 3) := by decide +kernel
theorem dX11_stored_178 : decode cX11_stored 178 = .ok (.iload_n 3, 1) := by decide +kernel
theorem dX11_stored_179 : decode cX11_stored 179 = .ok (.goto 15, 3) := by decide +kernel
theorem dX11_stored_182 : decode cX11_stored 182 = .ok (.iload_n 1, 1) := by decide +kernel
theorem dX11_stored_183 : decode cX11_stored 183 = .ok (.iconst 2, 1) := by decide +kernel
theorem dX11_stored_184 : decode cX11_stored 184 = .ok (.if_icmp .ne 8, 3) := by decide +kernel
theorem dX11_stored_187 : decode cX11_stored 187 = .ok (.iload 4, 2) := by decide +kernel
theorem dX11_stored_189 : decode cX11_stored 189 = .ok (.goto 5, 3) := by decide +kernel
theorem dX11_stored_192 : decode cX11_stored 192 = .ok (.iload 5, 2) := by decide +kernel
theorem dX11_stored_194 : decode cX11_stored 194 = .ok (.ireturn, 1) := by decide +kernel
theorem dX11_next_0 : decode cX11_next 0 = .ok (.aload_n 0, 1) := by decide +kernel
theorem dX11_next_1 : decode cX11_next 1 = .ok (.iload_n 1, 1) := by decide +kernel
theorem dX11_next_2 : decode cX11_next 2 = .ok (.invokevirtual 152, 3) := by decide +kernel
theorem dX11_next_5 : decode cX11_next 5 = .ok (.ifCond .ne 5, 3) := by decide +kernel
theorem dX11_next_8 : decode cX11_next 8 = .ok (.iconst (-1), 1) := by decide +kernel
theorem dX11_next_9 : decode cX11_next 9 = .ok (.ireturn, 1) := by decide +kernel
theorem dX11_next_10 : decode cX11_next 10 = .ok (.bipush (-4), 2) := by decide +kernel
theorem dX11_next_12 : decode cX11_next 12 = .ok (.istore_n 2, 1) := by decide +kernel
theorem dX11_next_13 : decode cX11_next 13 = .ok (.aload_n 0, 1) := by decide +kernel
theorem dX11_next_14 : decode cX11_next 14 = .ok (.getfield 144, 3) := by decide +kernel
theorem dX11_next_17 : decode cX11_next 17 = .ok (.iconst 1, 1) := by decide +kernel
theorem dX11_next_18 : decode cX11_next 18 = .ok (.isub, 1) := by decide +kernel
theorem dX11_next_19 : decode cX11_next 19 = .ok (.istore_n 3, 1) := by decide +kernel
theorem dX11_next_20 : decode cX11_next 20 = .ok (.iload_n 3, 1) := by decide +kernel
theorem dX11_next_21 : decode cX11_next 21 = .ok (.iload_n 1, 1) := by decide +kernel
theorem dX11_next_22 : decode cX11_next 22 = .ok (.if_icmp .lt 23, 3) := by decide +kernel
theorem dX11_next_25 : decode cX11_next 25 = .ok (.aload_n 0, 1) := by decide +kernel
theorem dX11_next_26 : decode cX11_next 26 = .ok (.iload_n 3, 1) := by decide +kernel
theorem dX11_next_27 : decode cX11_next 27 = .ok (.invokevirtual 201, 3) := by decide +kernel
theorem dX11_next_30 : decode cX11_next 30 = .ok (.ifCond .eq 7, 3) := by decide +kernel
theorem dX11_next_33 : decode cX11_next 33 = .ok (.iload_n 3, 1) := by decide +kernel
theorem dX11_next_34 : decode cX11_next 34 = .ok (.goto 4, 3) := by decide +kernel
theorem dX11_next_37 : decode cX11_next 37 = .ok (.iload_n 2, 1) := by decide +kernel
theorem dX11_next_38 : decode cX11_next 38 = .ok (.istore_n 2, 1) := by decide +kernel
theorem dX11_next_39 : decode cX11_next 39 = .ok (.iinc 3 (-1), 3) := by decide +kernel
theorem dX11_next_42 : decode cX11_next 42 = .ok (.goto (-22), 3) := by decide +kernel
theorem dX11_next_45 : decode cX11_next 45 = .ok (.iload_n 2, 1) := by decide +kernel
theorem dX11_next_46 : decode cX11_next 46 = .ok (.ireturn, 1) := by decide +kernel
theorem dX11_isWire_0 : decode cX11_isWire 0 = .ok (.iload_n 0, 1) := by decide +kernel
theorem dX11_isWire_1 : decode cX11_isWire 1 = .ok (.i2l, 1) := by decide +kernel
theorem dX11_isWire_2 : decode cX11_isWire 2 = .ok (.lconst 0, 1) := by decide +kernel
theorem dX11_isWire_3 : decode cX11_isWire 3 = .ok (.ldc2_w 204, 3) := by decide +kernel
theorem dX11_isWire_6 : decode cX11_isWire 6 = .ok (.invokestatic 58, 3) := by decide +kernel
theorem dX11_isWire_9 : decode cX11_isWire 9 = .ok (.ireturn, 1) := by decide +kernel
theorem dX11_isEdge_0 : decode cX11_isEdge 0 = .ok (.iload_n 2, 1) := by decide +kernel
theorem dX11_isEdge_1 : decode cX11_isEdge 1 = .ok (.ifCond .eq 12, 3) := by decide +kernel
theorem dX11_isEdge_4 : decode cX11_isEdge 4 = .ok (.aload_n 0, 1) := by decide +kernel
theorem dX11_isEdge_5 : decode cX11_isEdge 5 = .ok (.iload_n 1, 1) := by decide +kernel
theorem dX11_isEdge_6 : decode cX11_isEdge 6 = .ok (.iload_n 3, 1) := by decide +kernel
theorem dX11_isEdge_7 : decode cX11_isEdge 7 = .ok (.invokevirtual 162, 3) := by decide +kernel
theorem dX11_isEdge_10 : decode cX11_isEdge 10 = .ok (.goto 9, 3) := by decide +kernel
theorem dX11_isEdge_13 : decode cX11_isEdge 13 = .ok (.aload_n 0, 1) := by decide +kernel
theorem dX11_isEdge_14 : decode cX11_isEdge 14 = .ok (.iload_n 1, 1) := by decide +kernel
theorem dX11_isEdge_15 : decode cX11_isEdge 15 = .ok (.iload_n 3, 1) := by decide +kernel
theorem dX11_isEdge_16 : decode cX11_isEdge 16 = .ok (.invokevirtual 159, 3) := by decide +kernel
theorem dX11_isEdge_19 : decode cX11_isEdge 19 = .ok (.ireturn, 1) := by decide +kernel
theorem dX11_edges_0 : decode cX11_edges 0 = .ok (.iload_n 1, 1) := by decide +kernel
theorem dX11_edges_1 : decode cX11_edges 1 = .ok (.invokestatic 206, 3) := by decide +kernel
theorem dX11_edges_4 : decode cX11_edges 4 = .ok (.ifCond .ne 5, 3) := by decide +kernel
theorem dX11_edges_7 : decode cX11_edges 7 = .ok (.iconst (-1), 1) := by decide +kernel
theorem dX11_edges_8 : decode cX11_edges 8 = .ok (.ireturn, 1) := by decide +kernel
theorem dX11_edges_9 : decode cX11_edges 9 = .ok (.iconst 0, 1) := by decide +kernel
theorem dX11_edges_10 : decode cX11_edges 10 = .ok (.istore_n 3, 1) := by decide +kernel
theorem dX11_edges_11 : decode cX11_edges 11 = .ok (.iconst 0, 1) := by decide +kernel
theorem dX11_edges_12 : decode cX11_edges 12 = .ok (.istore 4, 2) := by decide +kernel
theorem dX11_edges_14 : decode cX11_edges 14 = .ok (.iload 4, 2) := by decide +kernel
theorem dX11_edges_16 : decode cX11_edges 16 = .ok (.aload_n 0, 1) := by decide +kernel
theorem dX11_edges_17 : decode cX11_edges 17 = .ok (.getfield 144, 3) := by decide +kernel
theorem dX11_edges_20 : decode cX11_edges 20 = .ok (.if_icmp .ge 23, 3) := by decide +kernel
theorem dX11_edges_23 : decode cX11_edges 23 = .ok (.iload_n 3, 1) := by decide +kernel
theorem dX11_edges_24 : decode cX11_edges 24 = .ok (.aload_n 0, 1) := by decide +kernel
theorem dX11_edges_25 : decode cX11_edges 25 = .ok (.iload_n 1, 1) := by decide +kernel
theorem dX11_edges_26 : decode cX11_edges 26 = .ok (.iload_n 2, 1) := by decide +kernel
theorem dX11_edges_27 : decode cX11_edges 27 = .ok (.iload 4, 2) := by decide +kernel
theorem dX11_edges_29 : decode cX11_edges 29 = .ok (.invokevirtual 209, 3) := by decide +kernel
theorem dX11_edges_32 : decode cX11_edges 32 = .ok (.invokestatic 213, 3) := by decide +kernel
theorem dX11_edges_35 : decode cX11_edges 35 = .ok (.iadd, 1) := by decide +kernel
theorem dX11_edges_36 : decode cX11_edges 36 = .ok (.istore_n 3, 1) := by decide +kernel
theorem dX11_edges_37 : decode cX11_edges 37 = .ok (.iinc 4 1, 3) := by decide +kernel
theorem dX11_edges_40 : decode cX11_edges 40 = .ok (.goto (-26), 3) := by decide +kernel
theorem dX11_edges_43 : decode cX11_edges 43 = .ok (.iload_n 3, 1) := by decide +kernel
theorem dX11_edges_44 : decode cX11_edges 44 = .ok (.ireturn, 1) := by decide +kernel
theorem dX11_edge_0 : decode cX11_edge 0 = .ok (.iload_n 1, 1) := by decide +kernel
theorem dX11_edge_1 : decode cX11_edge 1 = .ok (.invokestatic 206, 3) := by decide +kernel
theorem dX11_edge_4 : decode cX11_edge 4 = .ok (.ifCond .eq 7, 3) := by decide +kernel
theorem dX11_edge_7 : decode cX11_edge 7 = .ok (.iload_n 3, 1) := by decide +kernel
theorem dX11_edge_8 : decode cX11_edge 8 = .ok (.ifCond .ge 5, 3) := by decide +kernel
theorem dX11_edge_11 : decode cX11_edge 11 = .ok (.iconst (-1), 1) := by decide +kernel
theorem dX11_edge_12 : decode cX11_edge 12 = .ok (.ireturn, 1) := by decide +kernel
theorem dX11_edge_13 : decode cX11_edge 13 = .ok (.iconst 0, 1) := by decide +kernel
theorem dX11_edge_14 : decode cX11_edge 14 = .ok (.istore 4, 2) := by decide +kernel
theorem dX11_edge_16 : decode cX11_edge 16 = .ok (.iconst 0, 1) := by decide +kernel
theorem dX11_edge_17 : decode cX11_edge 17 = .ok (.istore 5, 2) := by decide +kernel
theorem dX11_edge_19 : decode cX11_edge 19 = .ok (.iload 5, 2) := by decide +kernel
theorem dX11_edge_21 : decode cX11_edge 21 = .ok (.aload_n 0, 1) := by decide +kernel
theorem dX11_edge_22 : decode cX11_edge 22 = .ok (.getfield 144, 3) := by decide +kernel
theorem dX11_edge_25 : decode cX11_edge 25 = .ok (.if_icmp .ge 32, 3) := by decide +kernel
theorem dX11_edge_28 : decode cX11_edge 28 = .ok (.aload_n 0, 1) := by decide +kernel
theorem dX11_edge_29 : decode cX11_edge 29 = .ok (.iload_n 1, 1) := by decide +kernel
theorem dX11_edge_30 : decode cX11_edge 30 = .ok (.iload_n 2, 1) := by decide +kernel
theorem dX11_edge_31 : decode cX11_edge 31 = .ok (.iload 5, 2) := by decide +kernel
theorem dX11_edge_33 : decode cX11_edge 33 = .ok (.invokevirtual 209, 3) := by decide +kernel
theorem dX11_edge_36 : decode cX11_edge 36 = .ok (.ifCond .eq 15, 3) := by decide +kernel
theorem dX11_edge_39 : decode cX11_edge 39 = .ok (.iload 4, 2) := by decide +kernel
theorem dX11_edge_41 : decode cX11_edge 41 = .ok (.iload_n 3, 1) := by decide +kernel
theorem dX11_edge_42 : decode cX11_edge 42 = .ok (.if_icmp .ne 6, 3) := by decide +kernel
theorem dX11_edge_45 : decode cX11_edge 45 = .ok (.iload 5, 2) := by decide +kernel
theorem dX11_edge_47 : decode cX11_edge 47 = .ok (.ireturn, 1) := by decide +kernel
theorem dX11_edge_48 : decode cX11_edge 48 = .ok (.iinc 4 1, 3) := by decide +kernel
theorem dX11_edge_51 : decode cX11_edge 51 = .ok (.iinc 5 1, 3) := by decide +kernel
theorem dX11_edge_54 : decode cX11_edge 54 = .ok (.goto (-35), 3) := by decide +kernel
theorem dX11_edge_57 : decode cX11_edge 57 = .ok (.bipush (-4), 2) := by decide +kernel
theorem dX11_edge_59 : decode cX11_edge 59 = .ok (.ireturn, 1) := by decide +kernel
theorem dX11_endOf_0 : decode cX11_endOf 0 = .ok (.iload_n 2, 1) := by decide +kernel
theorem dX11_endOf_1 : decode cX11_endOf 1 = .ok (.istore_n 3, 1) := by decide +kernel
theorem dX11_endOf_2 : decode cX11_endOf 2 = .ok (.iload_n 3, 1) := by decide +kernel
theorem dX11_endOf_3 : decode cX11_endOf 3 = .ok (.aload_n 0, 1) := by decide +kernel
theorem dX11_endOf_4 : decode cX11_endOf 4 = .ok (.getfield 144, 3) := by decide +kernel
theorem dX11_endOf_7 : decode cX11_endOf 7 = .ok (.if_icmp .ge 24, 3) := by decide +kernel
theorem dX11_endOf_10 : decode cX11_endOf 10 = .ok (.aload_n 0, 1) := by decide +kernel
theorem dX11_endOf_11 : decode cX11_endOf 11 = .ok (.iload_n 1, 1) := by decide +kernel
theorem dX11_endOf_12 : decode cX11_endOf 12 = .ok (.iload_n 3, 1) := by decide +kernel
theorem dX11_endOf_13 : decode cX11_endOf 13 = .ok (.invokevirtual 155, 3) := by decide +kernel
theorem dX11_endOf_16 : decode cX11_endOf 16 = .ok (.aload_n 0, 1) := by decide +kernel
theorem dX11_endOf_17 : decode cX11_endOf 17 = .ok (.iload_n 1, 1) := by decide +kernel
theorem dX11_endOf_18 : decode cX11_endOf 18 = .ok (.iload_n 2, 1) := by decide +kernel
theorem dX11_endOf_19 : decode cX11_endOf 19 = .ok (.invokevirtual 155, 3) := by decide +kernel
theorem dX11_endOf_22 : decode cX11_endOf 22 = .ok (.if_icmp .ne 9, 3) := by decide +kernel
theorem dX11_endOf_25 : decode cX11_endOf 25 = .ok (.iinc 3 1, 3) := by decide +kernel
theorem dX11_endOf_28 : decode cX11_endOf 28 = .ok (.goto (-26), 3) := by decide +kernel
theorem dX11_endOf_31 : decode cX11_endOf 31 = .ok (.iload_n 3, 1) := by decide +kernel
theorem dX11_endOf_32 : decode cX11_endOf 32 = .ok (.ireturn, 1) := by decide +kernel
theorem dX11_noPulses_0 : decode cX11_noPulses 0 = .ok (.aload_n 0, 1) := by decide +kernel
theorem dX11_noPulses_1 : decode cX11_noPulses 1 = .ok (.iconst 0, 1) := by decide +kernel
theorem dX11_noPulses_2 : decode cX11_noPulses 2 = .ok (.putfield 217, 3) := by decide +kernel
theorem dX11_noPulses_5 : decode cX11_noPulses 5 = .ok (.aload_n 0, 1) := by decide +kernel
theorem dX11_noPulses_6 : decode cX11_noPulses 6 = .ok (.bipush (-4), 2) := by decide +kernel
theorem dX11_noPulses_8 : decode cX11_noPulses 8 = .ok (.putfield 220, 3) := by decide +kernel
theorem dX11_noPulses_11 : decode cX11_noPulses 11 = .ok (.aload_n 0, 1) := by decide +kernel
theorem dX11_noPulses_12 : decode cX11_noPulses 12 = .ok (.bipush (-4), 2) := by decide +kernel
theorem dX11_noPulses_14 : decode cX11_noPulses 14 = .ok (.putfield 223, 3) := by decide +kernel
theorem dX11_noPulses_17 : decode cX11_noPulses 17 = .ok (.aload_n 0, 1) := by decide +kernel
theorem dX11_noPulses_18 : decode cX11_noPulses 18 = .ok (.bipush (-4), 2) := by decide +kernel
theorem dX11_noPulses_20 : decode cX11_noPulses 20 = .ok (.putfield 226, 3) := by decide +kernel
theorem dX11_noPulses_23 : decode cX11_noPulses 23 = .ok (.aload_n 0, 1) := by decide +kernel
theorem dX11_noPulses_24 : decode cX11_noPulses 24 = .ok (.bipush (-4), 2) := by decide +kernel
theorem dX11_noPulses_26 : decode cX11_noPulses 26 = .ok (.putfield 229, 3) := by decide +kernel
theorem dX11_noPulses_29 : decode cX11_noPulses 29 = .ok (.return_, 1) := by decide +kernel
theorem dX11_findPulses_0 : decode cX11_findPulses 0 = .ok (.iconst 0, 1) := by decide +kernel
theorem dX11_findPulses_1 : decode cX11_findPulses 1 = .ok (.istore_n 3, 1) := by decide +kernel
theorem dX11_findPulses_2 : decode cX11_findPulses 2 = .ok (.iload_n 3, 1) := by decide +kernel
theorem dX11_findPulses_3 : decode cX11_findPulses 3 = .ok (.aload_n 0, 1) := by decide +kernel
theorem dX11_findPulses_4 : decode cX11_findPulses 4 = .ok (.getfield 144, 3) := by decide +kernel
theorem dX11_findPulses_7 : decode cX11_findPulses 7 = .ok (.if_icmp .ge 169, 3) := by decide +kernel
theorem dX11_findPulses_10 : decode cX11_findPulses 10 = .ok (.aload_n 0, 1) := by decide +kernel
theorem dX11_findPulses_11 : decode cX11_findPulses 11 = .ok (.iload_n 1, 1) := by decide +kernel
theorem dX11_findPulses_12 : decode cX11_findPulses 12 = .ok (.iload_n 3, 1) := by decide +kernel
theorem dX11_findPulses_13 : decode cX11_findPulses 13 = .ok (.invokevirtual 232, 3) := by decide +kernel
theorem dX11_findPulses_16 : decode cX11_findPulses 16 = .ok (.istore 4, 2) := by decide +kernel
theorem dX11_findPulses_18 : decode cX11_findPulses 18 = .ok (.iload_n 3, 1) := by decide +kernel
theorem dX11_findPulses_19 : decode cX11_findPulses 19 = .ok (.ifCond .le 151, 3) := by decide +kernel
theorem dX11_findPulses_22 : decode cX11_findPulses 22 = .ok (.iload 4, 2) := by decide +kernel
theorem dX11_findPulses_24 : decode cX11_findPulses 24 = .ok (.aload_n 0, 1) := by decide +kernel
theorem dX11_findPulses_25 : decode cX11_findPulses 25 = .ok (.getfield 144, 3) := by decide +kernel
theorem dX11_findPulses_28 : decode cX11_findPulses 28 = .ok (.if_icmp .ge 142, 3) := by decide +kernel
theorem dX11_findPulses_31 : decode cX11_findPulses 31 = .ok (.iload_n 2, 1) := by decide +kernel
theorem dX11_findPulses_32 : decode cX11_findPulses 32 = .ok (.aload_n 0, 1) := by decide +kernel
theorem dX11_findPulses_33 : decode cX11_findPulses 33 = .ok (.iload_n 1, 1) := by decide +kernel
theorem dX11_findPulses_34 : decode cX11_findPulses 34 = .ok (.iload_n 3, 1) := by decide +kernel
theorem dX11_findPulses_35 : decode cX11_findPulses 35 = .ok (.invokevirtual 155, 3) := by decide +kernel
theorem dX11_findPulses_38 : decode cX11_findPulses 38 = .ok (.invokestatic 213, 3) := by decide +kernel
theorem dX11_findPulses_41 : decode cX11_findPulses 41 = .ok (.ishr, 1) := by decide +kernel
theorem dX11_findPulses_42 : decode cX11_findPulses 42 = .ok (.iconst 1, 1) := by decide +kernel
theorem dX11_findPulses_43 : decode cX11_findPulses 43 = .ok (.iand, 1) := by decide +kernel
theorem dX11_findPulses_44 : decode cX11_findPulses 44 = .ok (.iconst 1, 1) := by decide +kernel
theorem dX11_findPulses_45 : decode cX11_findPulses 45 = .ok (.if_icmp .ne 125, 3) := by decide +kernel
theorem dX11_findPulses_48 : decode cX11_findPulses 48 = .ok (.aload_n 0, 1) := by decide +kernel
theorem dX11_findPulses_49 : decode cX11_findPulses 49 = .ok (.dup, 1) := by decide +kernel
theorem dX11_findPulses_50 : decode cX11_findPulses 50 = .ok (.getfield 217, 3) := by decide +kernel
theorem dX11_findPulses_53 : decode cX11_findPulses 53 = .ok (.iconst 1, 1) := by decide +kernel
theorem dX11_findPulses_54 : decode cX11_findPulses 54 = .ok (.iadd, 1) := by decide +kernel
theorem dX11_findPulses_55 : decode cX11_findPulses 55 = .ok (.putfield 217, 3) := by decide +kernel
theorem dX11_findPulses_58 : decode cX11_findPulses 58 = .ok (.aload_n 0, 1) := by decide +kernel
theorem dX11_findPulses_59 : decode cX11_findPulses 59 = .ok (.aload_n 0, 1) := by decide +kernel
theorem dX11_findPulses_60 : decode cX11_findPulses 60 = .ok (.getfield 220, 3) := by decide +kernel
theorem dX11_findPulses_63 : decode cX11_findPulses 63 = .ok (.bipush (-4), 2) := by decide +kernel
theorem dX11_findPulses_65 : decode cX11_findPulses 65 = .ok (.if_icmp .eq 14, 3) := by decide +kernel
theorem dX11_findPulses_68 : decode cX11_findPulses 68 = .ok (.iload 4, 2) := by decide +kernel
theorem dX11_findPulses_70 : decode cX11_findPulses 70 = .ok (.iload_n 3, 1) := by decide +kernel
theorem dX11_findPulses_71 : decode cX11_findPulses 71 = .ok (.isub, 1) := by decide +kernel
theorem dX11_findPulses_72 : decode cX11_findPulses 72 = .ok (.aload_n 0, 1) := by decide +kernel
theorem dX11_findPulses_73 : decode cX11_findPulses 73 = .ok (.getfield 220, 3) := by decide +kernel
theorem dX11_findPulses_76 : decode cX11_findPulses 76 = .ok (.if_icmp .ge 7, 3) := by decide +kernel
theorem dX11_findPulses_79 : decode cX11_findPulses 79 = .ok (.iload_n 3, 1) := by decide +kernel
theorem dX11_findPulses_80 : decode cX11_findPulses 80 = .ok (.goto 7, 3) := by decide +kernel
theorem dX11_findPulses_83 : decode cX11_findPulses 83 = .ok (.aload_n 0, 1) := by decide +kernel
theorem dX11_findPulses_84 : decode cX11_findPulses 84 = .ok (.getfield 223, 3) := by decide +kernel
theorem dX11_findPulses_87 : decode cX11_findPulses 87 = .ok (.putfield 223, 3) := by decide +kernel
theorem dX11_findPulses_90 : decode cX11_findPulses 90 = .ok (.aload_n 0, 1) := by decide +kernel
theorem dX11_findPulses_91 : decode cX11_findPulses 91 = .ok (.aload_n 0, 1) := by decide +kernel
theorem dX11_findPulses_92 : decode cX11_findPulses 92 = .ok (.getfield 220, 3) := by decide +kernel
theorem dX11_findPulses_95 : decode cX11_findPulses 95 = .ok (.bipush (-4), 2) := by decide +kernel
theorem dX11_findPulses_97 : decode cX11_findPulses 97 = .ok (.if_icmp .ne 10, 3) := by decide +kernel
theorem dX11_findPulses_100 : decode cX11_findPulses 100 = .ok (.iload 4, 2) := by decide +kernel
theorem dX11_findPulses_102 : decode cX11_findPulses 102 = .ok (.iload_n 3, 1) := by decide +kernel
theorem dX11_findPulses_103 : decode cX11_findPulses 103 = .ok (.isub, 1) := by decide +kernel
theorem dX11_findPulses_104 : decode cX11_findPulses 104 = .ok (.goto 14, 3) := by decide +kernel
theorem dX11_findPulses_107 : decode cX11_findPulses 107 = .ok (.aload_n 0, 1) := by decide +kernel
theorem dX11_findPulses_108 : decode cX11_findPulses 108 = .ok (.getfield 220, 3) := by decide +kernel
theorem dX11_findPulses_111 : decode cX11_findPulses 111 = .ok (.iload 4, 2) := by decide +kernel
theorem dX11_findPulses_113 : decode cX11_findPulses 113 = .ok (.iload_n 3, 1) := by decide +kernel
theorem dX11_findPulses_114 : decode cX11_findPulses 114 = .ok (.isub, 1) := by decide +kernel
theorem dX11_findPulses_115 : decode cX11_findPulses 115 = .ok (.invokestatic 198, 3) := by decide +kernel
theorem dX11_findPulses_118 : decode cX11_findPulses 118 = .ok (.putfield 220, 3) := by decide +kernel
theorem dX11_findPulses_121 : decode cX11_findPulses 121 = .ok (.aload_n 0, 1) := by decide +kernel
theorem dX11_findPulses_122 : decode cX11_findPulses 122 = .ok (.iload 4, 2) := by decide +kernel
theorem dX11_findPulses_124 : decode cX11_findPulses 124 = .ok (.iload_n 3, 1) := by decide +kernel
theorem dX11_findPulses_125 : decode cX11_findPulses 125 = .ok (.isub, 1) := by decide +kernel
theorem dX11_findPulses_126 : decode cX11_findPulses 126 = .ok (.aload_n 0, 1) := by decide +kernel
theorem dX11_findPulses_127 : decode cX11_findPulses 127 = .ok (.getfield 226, 3) := by decide +kernel
theorem dX11_findPulses_130 : decode cX11_findPulses 130 = .ok (.if_icmp .le 7, 3) := by decide +kernel
theorem dX11_findPulses_133 : decode cX11_findPulses 133 = .ok (.iload_n 3, 1) := by decide +kernel
theorem dX11_findPulses_134 : decode cX11_findPulses 134 = .ok (.goto 7, 3) := by decide +kernel
theorem dX11_findPulses_137 : decode cX11_findPulses 137 = .ok (.aload_n 0, 1) := by decide +kernel
theorem dX11_findPulses_138 : decode cX11_findPulses 138 = .ok (.getfield 229, 3) := by decide +kernel
theorem dX11_findPulses_141 : decode cX11_findPulses 141 = .ok (.putfield 229, 3) := by decide +kernel
theorem dX11_findPulses_144 : decode cX11_findPulses 144 = .ok (.aload_n 0, 1) := by decide +kernel
theorem dX11_findPulses_145 : decode cX11_findPulses 145 = .ok (.iload 4, 2) := by decide +kernel
theorem dX11_findPulses_147 : decode cX11_findPulses 147 = .ok (.iload_n 3, 1) := by decide +kernel
theorem dX11_findPulses_148 : decode cX11_findPulses 148 = .ok (.isub, 1) := by decide +kernel
theorem dX11_findPulses_149 : decode cX11_findPulses 149 = .ok (.aload_n 0, 1) := by decide +kernel
theorem dX11_findPulses_150 : decode cX11_findPulses 150 = .ok (.getfield 226, 3) := by decide +kernel
theorem dX11_findPulses_153 : decode cX11_findPulses 153 = .ok (.if_icmp .le 10, 3) := by decide +kernel
theorem dX11_findPulses_156 : decode cX11_findPulses 156 = .ok (.iload 4, 2) := by decide +kernel
theorem dX11_findPulses_158 : decode cX11_findPulses 158 = .ok (.iload_n 3, 1) := by decide +kernel
theorem dX11_findPulses_159 : decode cX11_findPulses 159 = .ok (.isub, 1) := by decide +kernel
theorem dX11_findPulses_160 : decode cX11_findPulses 160 = .ok (.goto 7, 3) := by decide +kernel
theorem dX11_findPulses_163 : decode cX11_findPulses 163 = .ok (.aload_n 0, 1) := by decide +kernel
theorem dX11_findPulses_164 : decode cX11_findPulses 164 = .ok (.getfield 226, 3) := by decide +kernel
theorem dX11_findPulses_167 : decode cX11_findPulses 167 = .ok (.putfield 226, 3) := by decide +kernel
theorem dX11_findPulses_170 : decode cX11_findPulses 170 = .ok (.iload 4, 2) := by decide +kernel
theorem dX11_findPulses_172 : decode cX11_findPulses 172 = .ok (.istore_n 3, 1) := by decide +kernel
theorem dX11_findPulses_173 : decode cX11_findPulses 173 = .ok (.goto (-171), 3) := by decide +kernel
theorem dX11_findPulses_176 : decode cX11_findPulses 176 = .ok (.return_, 1) := by decide +kernel
theorem dX11_pulse_0 : decode cX11_pulse 0 = .ok (.iload_n 1, 1) := by decide +kernel
theorem dX11_pulse_1 : decode cX11_pulse 1 = .ok (.invokestatic 206, 3) := by decide +kernel
theorem dX11_pulse_4 : decode cX11_pulse 4 = .ok (.ifCond .eq 25, 3) := by decide +kernel
theorem dX11_pulse_7 : decode cX11_pulse 7 = .ok (.iload_n 2, 1) := by decide +kernel
theorem dX11_pulse_8 : decode cX11_pulse 8 = .ok (.i2l, 1) := by decide +kernel
theorem dX11_pulse_9 : decode cX11_pulse 9 = .ok (.lconst 0, 1) := by decide +kernel
theorem dX11_pulse_10 : decode cX11_pulse 10 = .ok (.lconst 1, 1) := by decide +kernel
theorem dX11_pulse_11 : decode cX11_pulse 11 = .ok (.invokestatic 58, 3) := by decide +kernel
theorem dX11_pulse_14 : decode cX11_pulse 14 = .ok (.ifCond .eq 15, 3) := by decide +kernel
theorem dX11_pulse_17 : decode cX11_pulse 17 = .ok (.iload_n 3, 1) := by decide +kernel
theorem dX11_pulse_18 : decode cX11_pulse 18 = .ok (.i2l, 1) := by decide +kernel
theorem dX11_pulse_19 : decode cX11_pulse 19 = .ok (.lconst 0, 1) := by decide +kernel
theorem dX11_pulse_20 : decode cX11_pulse 20 = .ok (.ldc2_w 235, 3) := by decide +kernel
theorem dX11_pulse_23 : decode cX11_pulse 23 = .ok (.invokestatic 58, 3) := by decide +kernel
theorem dX11_pulse_26 : decode cX11_pulse 26 = .ok (.ifCond .ne 5, 3) := by decide +kernel
theorem dX11_pulse_29 : decode cX11_pulse 29 = .ok (.iconst (-1), 1) := by decide +kernel
theorem dX11_pulse_30 : decode cX11_pulse 30 = .ok (.ireturn, 1) := by decide +kernel
theorem dX11_pulse_31 : decode cX11_pulse 31 = .ok (.aload_n 0, 1) := by decide +kernel
theorem dX11_pulse_32 : decode cX11_pulse 32 = .ok (.invokevirtual 237, 3) := by decide +kernel
theorem dX11_pulse_35 : decode cX11_pulse 35 = .ok (.aload_n 0, 1) := by decide +kernel
theorem dX11_pulse_36 : decode cX11_pulse 36 = .ok (.iload_n 1, 1) := by decide +kernel
theorem dX11_pulse_37 : decode cX11_pulse 37 = .ok (.iconst 1, 1) := by decide +kernel
theorem dX11_pulse_38 : decode cX11_pulse 38 = .ok (.iload_n 2, 1) := by decide +kernel
theorem dX11_pulse_39 : decode cX11_pulse 39 = .ok (.ishl, 1) := by decide +kernel
theorem dX11_pulse_40 : decode cX11_pulse 40 = .ok (.invokevirtual 240, 3) := by decide +kernel
theorem dX11_pulse_43 : decode cX11_pulse 43 = .ok (.iload_n 3, 1) := by decide +kernel
theorem dX11_pulse_44 : decode cX11_pulse 44 = .ok (.ifCond .ne 10, 3) := by decide +kernel
theorem dX11_pulse_47 : decode cX11_pulse 47 = .ok (.aload_n 0, 1) := by decide +kernel
theorem dX11_pulse_48 : decode cX11_pulse 48 = .ok (.getfield 217, 3) := by decide +kernel
theorem dX11_pulse_51 : decode cX11_pulse 51 = .ok (.goto 43, 3) := by decide +kernel
theorem dX11_pulse_54 : decode cX11_pulse 54 = .ok (.iload_n 3, 1) := by decide +kernel
theorem dX11_pulse_55 : decode cX11_pulse 55 = .ok (.iconst 1, 1) := by decide +kernel
theorem dX11_pulse_56 : decode cX11_pulse 56 = .ok (.if_icmp .ne 10, 3) := by decide +kernel
theorem dX11_pulse_59 : decode cX11_pulse 59 = .ok (.aload_n 0, 1) := by decide +kernel
theorem dX11_pulse_60 : decode cX11_pulse 60 = .ok (.getfield 220, 3) := by decide +kernel
theorem dX11_pulse_63 : decode cX11_pulse 63 = .ok (.goto 31, 3) := by decide +kernel
theorem dX11_pulse_66 : decode cX11_pulse 66 = .ok (.iload_n 3, 1) := by decide +kernel
theorem dX11_pulse_67 : decode cX11_pulse 67 = .ok (.iconst 2, 1) := by decide +kernel
theorem dX11_pulse_68 : decode cX11_pulse 68 = .ok (.if_icmp .ne 10, 3) := by decide +kernel
theorem dX11_pulse_71 : decode cX11_pulse 71 = .ok (.aload_n 0, 1) := by decide +kernel
theorem dX11_pulse_72 : decode cX11_pulse 72 = .ok (.getfield 223, 3) := by decide +kernel
theorem dX11_pulse_75 : decode cX11_pulse 75 = .ok (.goto 19, 3) := by decide +kernel
theorem dX11_pulse_78 : decode cX11_pulse 78 = .ok (.iload_n 3, 1) := by decide +kernel
theorem dX11_pulse_79 : decode cX11_pulse 79 = .ok (.iconst 3, 1) := by decide +kernel
theorem dX11_pulse_80 : decode cX11_pulse 80 = .ok (.if_icmp .ne 10, 3) := by decide +kernel
theorem dX11_pulse_83 : decode cX11_pulse 83 = .ok (.aload_n 0, 1) := by decide +kernel
theorem dX11_pulse_84 : decode cX11_pulse 84 = .ok (.getfield 226, 3) := by decide +kernel
theorem dX11_pulse_87 : decode cX11_pulse 87 = .ok (.goto 7, 3) := by decide +kernel
theorem dX11_pulse_90 : decode cX11_pulse 90 = .ok (.aload_n 0, 1) := by decide +kernel
theorem dX11_pulse_91 : decode cX11_pulse 91 = .ok (.getfield 229, 3) := by decide +kernel
theorem dX11_pulse_94 : decode cX11_pulse 94 = .ok (.ireturn, 1) := by decide +kernel
theorem dX11_told_0 : decode cX11_told 0 = .ok (.iload_n 1, 1) := by decide +kernel
theorem dX11_told_1 : decode cX11_told 1 = .ok (.istore_n 3, 1) := by decide +kernel
theorem dX11_told_2 : decode cX11_told 2 = .ok (.iload_n 0, 1) := by decide +kernel
theorem dX11_told_3 : decode cX11_told 3 = .ok (.istore 4, 2) := by decide +kernel
theorem dX11_told_5 : decode cX11_told 5 = .ok (.iload 4, 2) := by decide +kernel
theorem dX11_told_7 : decode cX11_told 7 = .ok (.ifCond .eq 19, 3) := by decide +kernel
theorem dX11_told_10 : decode cX11_told 10 = .ok (.iload_n 3, 1) := by decide +kernel
theorem dX11_told_11 : decode cX11_told 11 = .ok (.iload 4, 2) := by decide +kernel
theorem dX11_told_13 : decode cX11_told 13 = .ok (.irem, 1) := by decide +kernel
theorem dX11_told_14 : decode cX11_told 14 = .ok (.istore 5, 2) := by decide +kernel
theorem dX11_told_16 : decode cX11_told 16 = .ok (.iload 4, 2) := by decide +kernel
theorem dX11_told_18 : decode cX11_told 18 = .ok (.istore_n 3, 1) := by decide +kernel
theorem dX11_told_19 : decode cX11_told 19 = .ok (.iload 5, 2) := by decide +kernel
theorem dX11_told_21 : decode cX11_told 21 = .ok (.istore 4, 2) := by decide +kernel
theorem dX11_told_23 : decode cX11_told 23 = .ok (.goto (-18), 3) := by decide +kernel
theorem dX11_told_26 : decode cX11_told 26 = .ok (.iload_n 2, 1) := by decide +kernel
theorem dX11_told_27 : decode cX11_told 27 = .ok (.ifCond .ne 9, 3) := by decide +kernel
theorem dX11_told_30 : decode cX11_told 30 = .ok (.iload_n 0, 1) := by decide +kernel
theorem dX11_told_31 : decode cX11_told 31 = .ok (.iload_n 3, 1) := by decide +kernel
theorem dX11_told_32 : decode cX11_told 32 = .ok (.idiv, 1) := by decide +kernel
theorem dX11_told_33 : decode cX11_told 33 = .ok (.goto 6, 3) := by decide +kernel
theorem dX11_told_36 : decode cX11_told 36 = .ok (.iload_n 1, 1) := by decide +kernel
theorem dX11_told_37 : decode cX11_told 37 = .ok (.iload_n 3, 1) := by decide +kernel
theorem dX11_told_38 : decode cX11_told 38 = .ok (.idiv, 1) := by decide +kernel
theorem dX11_told_39 : decode cX11_told 39 = .ok (.ireturn, 1) := by decide +kernel
theorem dX11_duty_0 : decode cX11_duty 0 = .ok (.iload_n 1, 1) := by decide +kernel
theorem dX11_duty_1 : decode cX11_duty 1 = .ok (.invokestatic 206, 3) := by decide +kernel
theorem dX11_duty_4 : decode cX11_duty 4 = .ok (.ifCond .eq 13, 3) := by decide +kernel
theorem dX11_duty_7 : decode cX11_duty 7 = .ok (.iload_n 2, 1) := by decide +kernel
theorem dX11_duty_8 : decode cX11_duty 8 = .ok (.i2l, 1) := by decide +kernel
theorem dX11_duty_9 : decode cX11_duty 9 = .ok (.lconst 0, 1) := by decide +kernel
theorem dX11_duty_10 : decode cX11_duty 10 = .ok (.lconst 1, 1) := by decide +kernel
theorem dX11_duty_11 : decode cX11_duty 11 = .ok (.invokestatic 58, 3) := by decide +kernel
theorem dX11_duty_14 : decode cX11_duty 14 = .ok (.ifCond .ne 5, 3) := by decide +kernel
theorem dX11_duty_17 : decode cX11_duty 17 = .ok (.iconst (-1), 1) := by decide +kernel
theorem dX11_duty_18 : decode cX11_duty 18 = .ok (.ireturn, 1) := by decide +kernel
theorem dX11_duty_19 : decode cX11_duty 19 = .ok (.bipush (-4), 2) := by decide +kernel
theorem dX11_duty_21 : decode cX11_duty 21 = .ok (.istore_n 3, 1) := by decide +kernel
theorem dX11_duty_22 : decode cX11_duty 22 = .ok (.bipush (-4), 2) := by decide +kernel
theorem dX11_duty_24 : decode cX11_duty 24 = .ok (.istore 4, 2) := by decide +kernel
theorem dX11_duty_26 : decode cX11_duty 26 = .ok (.iconst 0, 1) := by decide +kernel
theorem dX11_duty_27 : decode cX11_duty 27 = .ok (.istore 5, 2) := by decide +kernel
theorem dX11_duty_29 : decode cX11_duty 29 = .ok (.iload 5, 2) := by decide +kernel
theorem dX11_duty_31 : decode cX11_duty 31 = .ok (.aload_n 0, 1) := by decide +kernel
theorem dX11_duty_32 : decode cX11_duty 32 = .ok (.getfield 144, 3) := by decide +kernel
theorem dX11_duty_35 : decode cX11_duty 35 = .ok (.if_icmp .ge 51, 3) := by decide +kernel
theorem dX11_duty_38 : decode cX11_duty 38 = .ok (.iload_n 3, 1) := by decide +kernel
theorem dX11_duty_39 : decode cX11_duty 39 = .ok (.bipush (-4), 2) := by decide +kernel
theorem dX11_duty_41 : decode cX11_duty 41 = .ok (.if_icmp .ne 18, 3) := by decide +kernel
theorem dX11_duty_44 : decode cX11_duty 44 = .ok (.aload_n 0, 1) := by decide +kernel
theorem dX11_duty_45 : decode cX11_duty 45 = .ok (.iload_n 1, 1) := by decide +kernel
theorem dX11_duty_46 : decode cX11_duty 46 = .ok (.iload 5, 2) := by decide +kernel
theorem dX11_duty_48 : decode cX11_duty 48 = .ok (.invokevirtual 159, 3) := by decide +kernel
theorem dX11_duty_51 : decode cX11_duty 51 = .ok (.ifCond .eq 8, 3) := by decide +kernel
theorem dX11_duty_54 : decode cX11_duty 54 = .ok (.iload 5, 2) := by decide +kernel
theorem dX11_duty_56 : decode cX11_duty 56 = .ok (.goto 4, 3) := by decide +kernel
theorem dX11_duty_59 : decode cX11_duty 59 = .ok (.iload_n 3, 1) := by decide +kernel
theorem dX11_duty_60 : decode cX11_duty 60 = .ok (.istore_n 3, 1) := by decide +kernel
theorem dX11_duty_61 : decode cX11_duty 61 = .ok (.aload_n 0, 1) := by decide +kernel
theorem dX11_duty_62 : decode cX11_duty 62 = .ok (.iload_n 1, 1) := by decide +kernel
theorem dX11_duty_63 : decode cX11_duty 63 = .ok (.iload 5, 2) := by decide +kernel
theorem dX11_duty_65 : decode cX11_duty 65 = .ok (.invokevirtual 159, 3) := by decide +kernel
theorem dX11_duty_68 : decode cX11_duty 68 = .ok (.ifCond .eq 8, 3) := by decide +kernel
theorem dX11_duty_71 : decode cX11_duty 71 = .ok (.iload 5, 2) := by decide +kernel
theorem dX11_duty_73 : decode cX11_duty 73 = .ok (.goto 5, 3) := by decide +kernel
theorem dX11_duty_76 : decode cX11_duty 76 = .ok (.iload 4, 2) := by decide +kernel
theorem dX11_duty_78 : decode cX11_duty 78 = .ok (.istore 4, 2) := by decide +kernel
theorem dX11_duty_80 : decode cX11_duty 80 = .ok (.iinc 5 1, 3) := by decide +kernel
theorem dX11_duty_83 : decode cX11_duty 83 = .ok (.goto (-54), 3) := by decide +kernel
theorem dX11_duty_86 : decode cX11_duty 86 = .ok (.iload_n 3, 1) := by decide +kernel
theorem dX11_duty_87 : decode cX11_duty 87 = .ok (.iload 4, 2) := by decide +kernel
theorem dX11_duty_89 : decode cX11_duty 89 = .ok (.if_icmp .ne 6, 3) := by decide +kernel
theorem dX11_duty_92 : decode cX11_duty 92 = .ok (.bipush (-4), 2) := by decide +kernel
theorem dX11_duty_94 : decode cX11_duty 94 = .ok (.ireturn, 1) := by decide +kernel
theorem dX11_duty_95 : decode cX11_duty 95 = .ok (.iconst 0, 1) := by decide +kernel
theorem dX11_duty_96 : decode cX11_duty 96 = .ok (.istore 5, 2) := by decide +kernel
theorem dX11_duty_98 : decode cX11_duty 98 = .ok (.iload_n 3, 1) := by decide +kernel
theorem dX11_duty_99 : decode cX11_duty 99 = .ok (.istore 6, 2) := by decide +kernel
theorem dX11_duty_101 : decode cX11_duty 101 = .ok (.iload 6, 2) := by decide +kernel
theorem dX11_duty_103 : decode cX11_duty 103 = .ok (.iload 4, 2) := by decide +kernel
theorem dX11_duty_105 : decode cX11_duty 105 = .ok (.if_icmp .ge 24, 3) := by decide +kernel
theorem dX11_duty_108 : decode cX11_duty 108 = .ok (.iload 5, 2) := by decide +kernel
theorem dX11_duty_110 : decode cX11_duty 110 = .ok (.aload_n 0, 1) := by decide +kernel
theorem dX11_duty_111 : decode cX11_duty 111 = .ok (.iload_n 1, 1) := by decide +kernel
theorem dX11_duty_112 : decode cX11_duty 112 = .ok (.iload 6, 2) := by decide +kernel
theorem dX11_duty_114 : decode cX11_duty 114 = .ok (.invokevirtual 155, 3) := by decide +kernel
theorem dX11_duty_117 : decode cX11_duty 117 = .ok (.invokestatic 213, 3) := by decide +kernel
theorem dX11_duty_120 : decode cX11_duty 120 = .ok (.iadd, 1) := by decide +kernel
theorem dX11_duty_121 : decode cX11_duty 121 = .ok (.istore 5, 2) := by decide +kernel
theorem dX11_duty_123 : decode cX11_duty 123 = .ok (.iinc 6 1, 3) := by decide +kernel
theorem dX11_duty_126 : decode cX11_duty 126 = .ok (.goto (-25), 3) := by decide +kernel
theorem dX11_duty_129 : decode cX11_duty 129 = .ok (.iload 5, 2) := by decide +kernel
theorem dX11_duty_131 : decode cX11_duty 131 = .ok (.iload 4, 2) := by decide +kernel
theorem dX11_duty_133 : decode cX11_duty 133 = .ok (.iload_n 3, 1) := by decide +kernel
theorem dX11_duty_134 : decode cX11_duty 134 = .ok (.isub, 1) := by decide +kernel
theorem dX11_duty_135 : decode cX11_duty 135 = .ok (.iload_n 2, 1) := by decide +kernel
theorem dX11_duty_136 : decode cX11_duty 136 = .ok (.invokestatic 243, 3) := by decide +kernel
theorem dX11_duty_139 : decode cX11_duty 139 = .ok (.ireturn, 1) := by decide +kernel
theorem dX11_shorter_0 : decode cX11_shorter 0 = .ok (.iload_n 1, 1) := by decide +kernel
theorem dX11_shorter_1 : decode cX11_shorter 1 = .ok (.invokestatic 206, 3) := by decide +kernel
theorem dX11_shorter_4 : decode cX11_shorter 4 = .ok (.ifCond .eq 15, 3) := by decide +kernel
theorem dX11_shorter_7 : decode cX11_shorter 7 = .ok (.iload_n 2, 1) := by decide +kernel
theorem dX11_shorter_8 : decode cX11_shorter 8 = .ok (.i2l, 1) := by decide +kernel
theorem dX11_shorter_9 : decode cX11_shorter 9 = .ok (.lconst 1, 1) := by decide +kernel
theorem dX11_shorter_10 : decode cX11_shorter 10 = .ok (.ldc2_w 147, 3) := by decide +kernel
theorem dX11_shorter_13 : decode cX11_shorter 13 = .ok (.invokestatic 58, 3) := by decide +kernel
theorem dX11_shorter_16 : decode cX11_shorter 16 = .ok (.ifCond .ne 5, 3) := by decide +kernel
theorem dX11_shorter_19 : decode cX11_shorter 19 = .ok (.iconst (-1), 1) := by decide +kernel
theorem dX11_shorter_20 : decode cX11_shorter 20 = .ok (.ireturn, 1) := by decide +kernel
theorem dX11_shorter_21 : decode cX11_shorter 21 = .ok (.iconst 0, 1) := by decide +kernel
theorem dX11_shorter_22 : decode cX11_shorter 22 = .ok (.istore_n 3, 1) := by decide +kernel
theorem dX11_shorter_23 : decode cX11_shorter 23 = .ok (.iconst 0, 1) := by decide +kernel
theorem dX11_shorter_24 : decode cX11_shorter 24 = .ok (.istore 4, 2) := by decide +kernel
theorem dX11_shorter_26 : decode cX11_shorter 26 = .ok (.iload 4, 2) := by decide +kernel
theorem dX11_shorter_28 : decode cX11_shorter 28 = .ok (.aload_n 0, 1) := by decide +kernel
theorem dX11_shorter_29 : decode cX11_shorter 29 = .ok (.getfield 144, 3) := by decide +kernel
theorem dX11_shorter_32 : decode cX11_shorter 32 = .ok (.if_icmp .ge 53, 3) := by decide +kernel
theorem dX11_shorter_35 : decode cX11_shorter 35 = .ok (.aload_n 0, 1) := by decide +kernel
theorem dX11_shorter_36 : decode cX11_shorter 36 = .ok (.iload_n 1, 1) := by decide +kernel
theorem dX11_shorter_37 : decode cX11_shorter 37 = .ok (.iload 4, 2) := by decide +kernel
theorem dX11_shorter_39 : decode cX11_shorter 39 = .ok (.invokevirtual 232, 3) := by decide +kernel
theorem dX11_shorter_42 : decode cX11_shorter 42 = .ok (.istore 5, 2) := by decide +kernel
theorem dX11_shorter_44 : decode cX11_shorter 44 = .ok (.iload_n 3, 1) := by decide +kernel
theorem dX11_shorter_45 : decode cX11_shorter 45 = .ok (.iload 4, 2) := by decide +kernel
theorem dX11_shorter_47 : decode cX11_shorter 47 = .ok (.ifCond .le 25, 3) := by decide +kernel
theorem dX11_shorter_50 : decode cX11_shorter 50 = .ok (.iload 5, 2) := by decide +kernel
theorem dX11_shorter_52 : decode cX11_shorter 52 = .ok (.aload_n 0, 1) := by decide +kernel
theorem dX11_shorter_53 : decode cX11_shorter 53 = .ok (.getfield 144, 3) := by decide +kernel
theorem dX11_shorter_56 : decode cX11_shorter 56 = .ok (.if_icmp .ge 16, 3) := by decide +kernel
theorem dX11_shorter_59 : decode cX11_shorter 59 = .ok (.iload 5, 2) := by decide +kernel
theorem dX11_shorter_61 : decode cX11_shorter 61 = .ok (.iload 4, 2) := by decide +kernel
theorem dX11_shorter_63 : decode cX11_shorter 63 = .ok (.isub, 1) := by decide +kernel
theorem dX11_shorter_64 : decode cX11_shorter 64 = .ok (.iload_n 2, 1) := by decide +kernel
theorem dX11_shorter_65 : decode cX11_shorter 65 = .ok (.if_icmp .ge 7, 3) := by decide +kernel
theorem dX11_shorter_68 : decode cX11_shorter 68 = .ok (.iconst 1, 1) := by decide +kernel
theorem dX11_shorter_69 : decode cX11_shorter 69 = .ok (.goto 4, 3) := by decide +kernel
theorem dX11_shorter_72 : decode cX11_shorter 72 = .ok (.iconst 0, 1) := by decide +kernel
theorem dX11_shorter_73 : decode cX11_shorter 73 = .ok (.invokestatic 213, 3) := by decide +kernel
theorem dX11_shorter_76 : decode cX11_shorter 76 = .ok (.iadd, 1) := by decide +kernel
theorem dX11_shorter_77 : decode cX11_shorter 77 = .ok (.istore_n 3, 1) := by decide +kernel
theorem dX11_shorter_78 : decode cX11_shorter 78 = .ok (.iload 5, 2) := by decide +kernel
theorem dX11_shorter_80 : decode cX11_shorter 80 = .ok (.istore 4, 2) := by decide +kernel
theorem dX11_shorter_82 : decode cX11_shorter 82 = .ok (.goto (-56), 3) := by decide +kernel
theorem dX11_shorter_85 : decode cX11_shorter 85 = .ok (.iload_n 3, 1) := by decide +kernel
theorem dX11_shorter_86 : decode cX11_shorter 86 = .ok (.ireturn, 1) := by decide +kernel
theorem dX11_smooths_0 : decode cX11_smooths 0 = .ok (.iconst 0, 1) := by decide +kernel
theorem dX11_smooths_1 : decode cX11_smooths 1 = .ok (.istore_n 3, 1) := by decide +kernel
theorem dX11_smooths_2 : decode cX11_smooths 2 = .ok (.iload_n 3, 1) := by decide +kernel
theorem dX11_smooths_3 : decode cX11_smooths 3 = .ok (.aload_n 0, 1) := by decide +kernel
theorem dX11_smooths_4 : decode cX11_smooths 4 = .ok (.getfield 144, 3) := by decide +kernel
theorem dX11_smooths_7 : decode cX11_smooths 7 = .ok (.if_icmp .ge 76, 3) := by decide +kernel
theorem dX11_smooths_10 : decode cX11_smooths 10 = .ok (.aload_n 0, 1) := by decide +kernel
theorem dX11_smooths_11 : decode cX11_smooths 11 = .ok (.iload_n 1, 1) := by decide +kernel
theorem dX11_smooths_12 : decode cX11_smooths 12 = .ok (.iload_n 3, 1) := by decide +kernel
theorem dX11_smooths_13 : decode cX11_smooths 13 = .ok (.invokevirtual 232, 3) := by decide +kernel
theorem dX11_smooths_16 : decode cX11_smooths 16 = .ok (.istore 4, 2) := by decide +kernel
theorem dX11_smooths_18 : decode cX11_smooths 18 = .ok (.iload_n 3, 1) := by decide +kernel
theorem dX11_smooths_19 : decode cX11_smooths 19 = .ok (.ifCond .le 58, 3) := by decide +kernel
theorem dX11_smooths_22 : decode cX11_smooths 22 = .ok (.iload 4, 2) := by decide +kernel
theorem dX11_smooths_24 : decode cX11_smooths 24 = .ok (.aload_n 0, 1) := by decide +kernel
theorem dX11_smooths_25 : decode cX11_smooths 25 = .ok (.getfield 144, 3) := by decide +kernel
theorem dX11_smooths_28 : decode cX11_smooths 28 = .ok (.if_icmp .ge 49, 3) := by decide +kernel
theorem dX11_smooths_31 : decode cX11_smooths 31 = .ok (.iload 4, 2) := by decide +kernel
theorem dX11_smooths_33 : decode cX11_smooths 33 = .ok (.iload_n 3, 1) := by decide +kernel
theorem dX11_smooths_34 : decode cX11_smooths 34 = .ok (.isub, 1) := by decide +kernel
theorem dX11_smooths_35 : decode cX11_smooths 35 = .ok (.iload_n 2, 1) := by decide +kernel
theorem dX11_smooths_36 : decode cX11_smooths 36 = .ok (.if_icmp .ge 41, 3) := by decide +kernel
theorem dX11_smooths_39 : decode cX11_smooths 39 = .ok (.iload_n 3, 1) := by decide +kernel
theorem dX11_smooths_40 : decode cX11_smooths 40 = .ok (.istore 5, 2) := by decide +kernel
theorem dX11_smooths_42 : decode cX11_smooths 42 = .ok (.iload 5, 2) := by decide +kernel
theorem dX11_smooths_44 : decode cX11_smooths 44 = .ok (.iload 4, 2) := by decide +kernel
theorem dX11_smooths_46 : decode cX11_smooths 46 = .ok (.if_icmp .ge 22, 3) := by decide +kernel
theorem dX11_smooths_49 : decode cX11_smooths 49 = .ok (.aload_n 0, 1) := by decide +kernel
theorem dX11_smooths_50 : decode cX11_smooths 50 = .ok (.getfield 16, 3) := by decide +kernel
theorem dX11_smooths_53 : decode cX11_smooths 53 = .ok (.iload 5, 2) := by decide +kernel
theorem dX11_smooths_55 : decode cX11_smooths 55 = .ok (.dup2, 1) := by decide +kernel
theorem dX11_smooths_56 : decode cX11_smooths 56 = .ok (.iaload, 1) := by decide +kernel
theorem dX11_smooths_57 : decode cX11_smooths 57 = .ok (.iconst 1, 1) := by decide +kernel
theorem dX11_smooths_58 : decode cX11_smooths 58 = .ok (.iload_n 1, 1) := by decide +kernel
theorem dX11_smooths_59 : decode cX11_smooths 59 = .ok (.ishl, 1) := by decide +kernel
theorem dX11_smooths_60 : decode cX11_smooths 60 = .ok (.ixor, 1) := by decide +kernel
theorem dX11_smooths_61 : decode cX11_smooths 61 = .ok (.iastore, 1) := by decide +kernel
theorem dX11_smooths_62 : decode cX11_smooths 62 = .ok (.iinc 5 1, 3) := by decide +kernel
theorem dX11_smooths_65 : decode cX11_smooths 65 = .ok (.goto (-23), 3) := by decide +kernel
theorem dX11_smooths_68 : decode cX11_smooths 68 = .ok (.aload_n 0, 1) := by decide +kernel
theorem dX11_smooths_69 : decode cX11_smooths 69 = .ok (.iload_n 1, 1) := by decide +kernel
theorem dX11_smooths_70 : decode cX11_smooths 70 = .ok (.iload 4, 2) := by decide +kernel
theorem dX11_smooths_72 : decode cX11_smooths 72 = .ok (.invokevirtual 232, 3) := by decide +kernel
theorem dX11_smooths_75 : decode cX11_smooths 75 = .ok (.istore 4, 2) := by decide +kernel
theorem dX11_smooths_77 : decode cX11_smooths 77 = .ok (.iload 4, 2) := by decide +kernel
theorem dX11_smooths_79 : decode cX11_smooths 79 = .ok (.istore_n 3, 1) := by decide +kernel
theorem dX11_smooths_80 : decode cX11_smooths 80 = .ok (.goto (-78), 3) := by decide +kernel
theorem dX11_smooths_83 : decode cX11_smooths 83 = .ok (.return_, 1) := by decide +kernel
theorem dX11_smooth_0 : decode cX11_smooth 0 = .ok (.iload_n 1, 1) := by decide +kernel
theorem dX11_smooth_1 : decode cX11_smooth 1 = .ok (.i2l, 1) := by decide +kernel
theorem dX11_smooth_2 : decode cX11_smooth 2 = .ok (.lconst 1, 1) := by decide +kernel
theorem dX11_smooth_3 : decode cX11_smooth 3 = .ok (.ldc2_w 147, 3) := by decide +kernel
theorem dX11_smooth_6 : decode cX11_smooth 6 = .ok (.invokestatic 58, 3) := by decide +kernel
theorem dX11_smooth_9 : decode cX11_smooth 9 = .ok (.ifCond .ne 5, 3) := by decide +kernel
theorem dX11_smooth_12 : decode cX11_smooth 12 = .ok (.iconst (-1), 1) := by decide +kernel
theorem dX11_smooth_13 : decode cX11_smooth 13 = .ok (.ireturn, 1) := by decide +kernel
theorem dX11_smooth_14 : decode cX11_smooth 14 = .ok (.iconst 0, 1) := by decide +kernel
theorem dX11_smooth_15 : decode cX11_smooth 15 = .ok (.istore_n 2, 1) := by decide +kernel
theorem dX11_smooth_16 : decode cX11_smooth 16 = .ok (.iload_n 2, 1) := by decide +kernel
theorem dX11_smooth_17 : decode cX11_smooth 17 = .ok (.aload_n 0, 1) := by decide +kernel
theorem dX11_smooth_18 : decode cX11_smooth 18 = .ok (.getfield 144, 3) := by decide +kernel
theorem dX11_smooth_21 : decode cX11_smooth 21 = .ok (.if_icmp .ge 21, 3) := by decide +kernel
theorem dX11_smooth_24 : decode cX11_smooth 24 = .ok (.aload_n 0, 1) := by decide +kernel
theorem dX11_smooth_25 : decode cX11_smooth 25 = .ok (.getfield 31, 3) := by decide +kernel
theorem dX11_smooth_28 : decode cX11_smooth 28 = .ok (.iload_n 2, 1) := by decide +kernel
theorem dX11_smooth_29 : decode cX11_smooth 29 = .ok (.aload_n 0, 1) := by decide +kernel
theorem dX11_smooth_30 : decode cX11_smooth 30 = .ok (.getfield 16, 3) := by decide +kernel
theorem dX11_smooth_33 : decode cX11_smooth 33 = .ok (.iload_n 2, 1) := by decide +kernel
theorem dX11_smooth_34 : decode cX11_smooth 34 = .ok (.iaload, 1) := by decide +kernel
theorem dX11_smooth_35 : decode cX11_smooth 35 = .ok (.iastore, 1) := by decide +kernel
theorem dX11_smooth_36 : decode cX11_smooth 36 = .ok (.iinc 2 1, 3) := by decide +kernel
theorem dX11_smooth_39 : decode cX11_smooth 39 = .ok (.goto (-23), 3) := by decide +kernel
theorem dX11_smooth_42 : decode cX11_smooth 42 = .ok (.iconst 0, 1) := by decide +kernel
theorem dX11_smooth_43 : decode cX11_smooth 43 = .ok (.istore_n 2, 1) := by decide +kernel
theorem dX11_smooth_44 : decode cX11_smooth 44 = .ok (.iload_n 2, 1) := by decide +kernel
theorem dX11_smooth_45 : decode cX11_smooth 45 = .ok (.bipush 8, 2) := by decide +kernel
theorem dX11_smooth_47 : decode cX11_smooth 47 = .ok (.if_icmp .ge 15, 3) := by decide +kernel
theorem dX11_smooth_50 : decode cX11_smooth 50 = .ok (.aload_n 0, 1) := by decide +kernel
theorem dX11_smooth_51 : decode cX11_smooth 51 = .ok (.iload_n 2, 1) := by decide +kernel
theorem dX11_smooth_52 : decode cX11_smooth 52 = .ok (.iload_n 1, 1) := by decide +kernel
theorem dX11_smooth_53 : decode cX11_smooth 53 = .ok (.invokevirtual 247, 3) := by decide +kernel
theorem dX11_smooth_56 : decode cX11_smooth 56 = .ok (.iinc 2 1, 3) := by decide +kernel
theorem dX11_smooth_59 : decode cX11_smooth 59 = .ok (.goto (-15), 3) := by decide +kernel
theorem dX11_smooth_62 : decode cX11_smooth 62 = .ok (.iconst 0, 1) := by decide +kernel
theorem dX11_smooth_63 : decode cX11_smooth 63 = .ok (.istore_n 2, 1) := by decide +kernel
theorem dX11_smooth_64 : decode cX11_smooth 64 = .ok (.iconst 0, 1) := by decide +kernel
theorem dX11_smooth_65 : decode cX11_smooth 65 = .ok (.istore_n 3, 1) := by decide +kernel
theorem dX11_smooth_66 : decode cX11_smooth 66 = .ok (.iload_n 3, 1) := by decide +kernel
theorem dX11_smooth_67 : decode cX11_smooth 67 = .ok (.aload_n 0, 1) := by decide +kernel
theorem dX11_smooth_68 : decode cX11_smooth 68 = .ok (.getfield 144, 3) := by decide +kernel
theorem dX11_smooth_71 : decode cX11_smooth 71 = .ok (.if_icmp .ge 35, 3) := by decide +kernel
theorem dX11_smooth_74 : decode cX11_smooth 74 = .ok (.iload_n 2, 1) := by decide +kernel
theorem dX11_smooth_75 : decode cX11_smooth 75 = .ok (.aload_n 0, 1) := by decide +kernel
theorem dX11_smooth_76 : decode cX11_smooth 76 = .ok (.getfield 31, 3) := by decide +kernel
theorem dX11_smooth_79 : decode cX11_smooth 79 = .ok (.iload_n 3, 1) := by decide +kernel
theorem dX11_smooth_80 : decode cX11_smooth 80 = .ok (.iaload, 1) := by decide +kernel
theorem dX11_smooth_81 : decode cX11_smooth 81 = .ok (.aload_n 0, 1) := by decide +kernel
theorem dX11_smooth_82 : decode cX11_smooth 82 = .ok (.getfield 16, 3) := by decide +kernel
theorem dX11_smooth_85 : decode cX11_smooth 85 = .ok (.iload_n 3, 1) := by decide +kernel
theorem dX11_smooth_86 : decode cX11_smooth 86 = .ok (.iaload, 1) := by decide +kernel
theorem dX11_smooth_87 : decode cX11_smooth 87 = .ok (.if_icmp .eq 7, 3) := by decide +kernel
theorem dX11_smooth_90 : decode cX11_smooth 90 = .ok (.iconst 1, 1) := by decide +kernel
theorem dX11_smooth_91 : decode cX11_smooth 91 = .ok (.goto 4, 3) := by decide +kernel
theorem dX11_smooth_94 : decode cX11_smooth 94 = .ok (.iconst 0, 1) := by decide +kernel
theorem dX11_smooth_95 : decode cX11_smooth 95 = .ok (.invokestatic 213, 3) := by decide +kernel
theorem dX11_smooth_98 : decode cX11_smooth 98 = .ok (.iadd, 1) := by decide +kernel
theorem dX11_smooth_99 : decode cX11_smooth 99 = .ok (.istore_n 2, 1) := by decide +kernel
theorem dX11_smooth_100 : decode cX11_smooth 100 = .ok (.iinc 3 1, 3) := by decide +kernel
theorem dX11_smooth_103 : decode cX11_smooth 103 = .ok (.goto (-37), 3) := by decide +kernel
theorem dX11_smooth_106 : decode cX11_smooth 106 = .ok (.iload_n 2, 1) := by decide +kernel
theorem dX11_smooth_107 : decode cX11_smooth 107 = .ok (.ireturn, 1) := by decide +kernel
theorem dX11_changes_0 : decode cX11_changes 0 = .ok (.aload_n 0, 1) := by decide +kernel
theorem dX11_changes_1 : decode cX11_changes 1 = .ok (.iload_n 1, 1) := by decide +kernel
theorem dX11_changes_2 : decode cX11_changes 2 = .ok (.iload_n 2, 1) := by decide +kernel
theorem dX11_changes_3 : decode cX11_changes 3 = .ok (.invokevirtual 159, 3) := by decide +kernel
theorem dX11_changes_6 : decode cX11_changes 6 = .ok (.ifCond .ne 12, 3) := by decide +kernel
theorem dX11_changes_9 : decode cX11_changes 9 = .ok (.aload_n 0, 1) := by decide +kernel
theorem dX11_changes_10 : decode cX11_changes 10 = .ok (.iload_n 1, 1) := by decide +kernel
theorem dX11_changes_11 : decode cX11_changes 11 = .ok (.iload_n 2, 1) := by decide +kernel
theorem dX11_changes_12 : decode cX11_changes 12 = .ok (.invokevirtual 162, 3) := by decide +kernel
theorem dX11_changes_15 : decode cX11_changes 15 = .ok (.ifCond .eq 7, 3) := by decide +kernel
theorem dX11_changes_18 : decode cX11_changes 18 = .ok (.iconst 1, 1) := by decide +kernel
theorem dX11_changes_19 : decode cX11_changes 19 = .ok (.goto 4, 3) := by decide +kernel
theorem dX11_changes_22 : decode cX11_changes 22 = .ok (.iconst 0, 1) := by decide +kernel
theorem dX11_changes_23 : decode cX11_changes 23 = .ok (.ireturn, 1) := by decide +kernel
theorem dX11_aheadOf_0 : decode cX11_aheadOf 0 = .ok (.iload_n 2, 1) := by decide +kernel
theorem dX11_aheadOf_1 : decode cX11_aheadOf 1 = .ok (.istore_n 3, 1) := by decide +kernel
theorem dX11_aheadOf_2 : decode cX11_aheadOf 2 = .ok (.iload_n 3, 1) := by decide +kernel
theorem dX11_aheadOf_3 : decode cX11_aheadOf 3 = .ok (.ifCond .le 22, 3) := by decide +kernel
theorem dX11_aheadOf_6 : decode cX11_aheadOf 6 = .ok (.aload_n 0, 1) := by decide +kernel
theorem dX11_aheadOf_7 : decode cX11_aheadOf 7 = .ok (.iload_n 1, 1) := by decide +kernel
theorem dX11_aheadOf_8 : decode cX11_aheadOf 8 = .ok (.iload_n 3, 1) := by decide +kernel
theorem dX11_aheadOf_9 : decode cX11_aheadOf 9 = .ok (.invokevirtual 250, 3) := by decide +kernel
theorem dX11_aheadOf_12 : decode cX11_aheadOf 12 = .ok (.ifCond .eq 7, 3) := by decide +kernel
theorem dX11_aheadOf_15 : decode cX11_aheadOf 15 = .ok (.iload_n 2, 1) := by decide +kernel
theorem dX11_aheadOf_16 : decode cX11_aheadOf 16 = .ok (.iload_n 3, 1) := by decide +kernel
theorem dX11_aheadOf_17 : decode cX11_aheadOf 17 = .ok (.isub, 1) := by decide +kernel
theorem dX11_aheadOf_18 : decode cX11_aheadOf 18 = .ok (.ireturn, 1) := by decide +kernel
theorem dX11_aheadOf_19 : decode cX11_aheadOf 19 = .ok (.iinc 3 (-1), 3) := by decide +kernel
theorem dX11_aheadOf_22 : decode cX11_aheadOf 22 = .ok (.goto (-20), 3) := by decide +kernel
theorem dX11_aheadOf_25 : decode cX11_aheadOf 25 = .ok (.bipush (-4), 2) := by decide +kernel
theorem dX11_aheadOf_27 : decode cX11_aheadOf 27 = .ok (.ireturn, 1) := by decide +kernel
theorem dX11_behindOf_0 : decode cX11_behindOf 0 = .ok (.iload_n 2, 1) := by decide +kernel
theorem dX11_behindOf_1 : decode cX11_behindOf 1 = .ok (.iconst 1, 1) := by decide +kernel
theorem dX11_behindOf_2 : decode cX11_behindOf 2 = .ok (.iadd, 1) := by decide +kernel
theorem dX11_behindOf_3 : decode cX11_behindOf 3 = .ok (.istore_n 3, 1) := by decide +kernel
theorem dX11_behindOf_4 : decode cX11_behindOf 4 = .ok (.iload_n 3, 1) := by decide +kernel
theorem dX11_behindOf_5 : decode cX11_behindOf 5 = .ok (.aload_n 0, 1) := by decide +kernel
theorem dX11_behindOf_6 : decode cX11_behindOf 6 = .ok (.getfield 144, 3) := by decide +kernel
theorem dX11_behindOf_9 : decode cX11_behindOf 9 = .ok (.if_icmp .ge 22, 3) := by decide +kernel
theorem dX11_behindOf_12 : decode cX11_behindOf 12 = .ok (.aload_n 0, 1) := by decide +kernel
theorem dX11_behindOf_13 : decode cX11_behindOf 13 = .ok (.iload_n 1, 1) := by decide +kernel
theorem dX11_behindOf_14 : decode cX11_behindOf 14 = .ok (.iload_n 3, 1) := by decide +kernel
theorem dX11_behindOf_15 : decode cX11_behindOf 15 = .ok (.invokevirtual 250, 3) := by decide +kernel
theorem dX11_behindOf_18 : decode cX11_behindOf 18 = .ok (.ifCond .eq 7, 3) := by decide +kernel
theorem dX11_behindOf_21 : decode cX11_behindOf 21 = .ok (.iload_n 3, 1) := by decide +kernel
theorem dX11_behindOf_22 : decode cX11_behindOf 22 = .ok (.iload_n 2, 1) := by decide +kernel
theorem dX11_behindOf_23 : decode cX11_behindOf 23 = .ok (.isub, 1) := by decide +kernel
theorem dX11_behindOf_24 : decode cX11_behindOf 24 = .ok (.ireturn, 1) := by decide +kernel
theorem dX11_behindOf_25 : decode cX11_behindOf 25 = .ok (.iinc 3 1, 3) := by decide +kernel
theorem dX11_behindOf_28 : decode cX11_behindOf 28 = .ok (.goto (-24), 3) := by decide +kernel
theorem dX11_behindOf_31 : decode cX11_behindOf 31 = .ok (.bipush (-4), 2) := by decide +kernel
theorem dX11_behindOf_33 : decode cX11_behindOf 33 = .ok (.ireturn, 1) := by decide +kernel
theorem dX11_setup_0 : decode cX11_setup 0 = .ok (.iload_n 1, 1) := by decide +kernel
theorem dX11_setup_1 : decode cX11_setup 1 = .ok (.invokestatic 206, 3) := by decide +kernel
theorem dX11_setup_4 : decode cX11_setup 4 = .ok (.ifCond .eq 22, 3) := by decide +kernel
theorem dX11_setup_7 : decode cX11_setup 7 = .ok (.iload_n 2, 1) := by decide +kernel
theorem dX11_setup_8 : decode cX11_setup 8 = .ok (.invokestatic 206, 3) := by decide +kernel
theorem dX11_setup_11 : decode cX11_setup 11 = .ok (.ifCond .eq 15, 3) := by decide +kernel
theorem dX11_setup_14 : decode cX11_setup 14 = .ok (.iload_n 3, 1) := by decide +kernel
theorem dX11_setup_15 : decode cX11_setup 15 = .ok (.i2l, 1) := by decide +kernel
theorem dX11_setup_16 : decode cX11_setup 16 = .ok (.lconst 0, 1) := by decide +kernel
theorem dX11_setup_17 : decode cX11_setup 17 = .ok (.ldc2_w 191, 3) := by decide +kernel
theorem dX11_setup_20 : decode cX11_setup 20 = .ok (.invokestatic 58, 3) := by decide +kernel
theorem dX11_setup_23 : decode cX11_setup 23 = .ok (.ifCond .ne 5, 3) := by decide +kernel
theorem dX11_setup_26 : decode cX11_setup 26 = .ok (.iconst (-1), 1) := by decide +kernel
theorem dX11_setup_27 : decode cX11_setup 27 = .ok (.ireturn, 1) := by decide +kernel
theorem dX11_setup_28 : decode cX11_setup 28 = .ok (.bipush (-4), 2) := by decide +kernel
theorem dX11_setup_30 : decode cX11_setup 30 = .ok (.istore 4, 2) := by decide +kernel
theorem dX11_setup_32 : decode cX11_setup 32 = .ok (.bipush (-4), 2) := by decide +kernel
theorem dX11_setup_34 : decode cX11_setup 34 = .ok (.istore 5, 2) := by decide +kernel
theorem dX11_setup_36 : decode cX11_setup 36 = .ok (.iconst 0, 1) := by decide +kernel
theorem dX11_setup_37 : decode cX11_setup 37 = .ok (.istore 6, 2) := by decide +kernel
theorem dX11_setup_39 : decode cX11_setup 39 = .ok (.iload 6, 2) := by decide +kernel
theorem dX11_setup_41 : decode cX11_setup 41 = .ok (.aload_n 0, 1) := by decide +kernel
theorem dX11_setup_42 : decode cX11_setup 42 = .ok (.getfield 144, 3) := by decide +kernel
theorem dX11_setup_45 : decode cX11_setup 45 = .ok (.if_icmp .ge 99, 3) := by decide +kernel
theorem dX11_setup_48 : decode cX11_setup 48 = .ok (.aload_n 0, 1) := by decide +kernel
theorem dX11_setup_49 : decode cX11_setup 49 = .ok (.iload_n 1, 1) := by decide +kernel
theorem dX11_setup_50 : decode cX11_setup 50 = .ok (.iload 6, 2) := by decide +kernel
theorem dX11_setup_52 : decode cX11_setup 52 = .ok (.invokevirtual 159, 3) := by decide +kernel
theorem dX11_setup_55 : decode cX11_setup 55 = .ok (.ifCond .eq 83, 3) := by decide +kernel
theorem dX11_setup_58 : decode cX11_setup 58 = .ok (.iload_n 3, 1) := by decide +kernel
theorem dX11_setup_59 : decode cX11_setup 59 = .ok (.iconst 2, 1) := by decide +kernel
theorem dX11_setup_60 : decode cX11_setup 60 = .ok (.if_icmp .ge 13, 3) := by decide +kernel
theorem dX11_setup_63 : decode cX11_setup 63 = .ok (.aload_n 0, 1) := by decide +kernel
theorem dX11_setup_64 : decode cX11_setup 64 = .ok (.iload_n 2, 1) := by decide +kernel
theorem dX11_setup_65 : decode cX11_setup 65 = .ok (.iload 6, 2) := by decide +kernel
theorem dX11_setup_67 : decode cX11_setup 67 = .ok (.invokevirtual 253, 3) := by decide +kernel
theorem dX11_setup_70 : decode cX11_setup 70 = .ok (.goto 10, 3) := by decide +kernel
theorem dX11_setup_73 : decode cX11_setup 73 = .ok (.aload_n 0, 1) := by decide +kernel
theorem dX11_setup_74 : decode cX11_setup 74 = .ok (.iload_n 2, 1) := by decide +kernel
theorem dX11_setup_75 : decode cX11_setup 75 = .ok (.iload 6, 2) := by decide +kernel
theorem dX11_setup_77 : decode cX11_setup 77 = .ok (.invokevirtual 256, 3) := by decide +kernel
theorem dX11_setup_80 : decode cX11_setup 80 = .ok (.istore 7, 2) := by decide +kernel
theorem dX11_setup_82 : decode cX11_setup 82 = .ok (.iload 7, 2) := by decide +kernel
theorem dX11_setup_84 : decode cX11_setup 84 = .ok (.bipush (-4), 2) := by decide +kernel
theorem dX11_setup_86 : decode cX11_setup 86 = .ok (.if_icmp .eq 21, 3) := by decide +kernel
theorem dX11_setup_89 : decode cX11_setup 89 = .ok (.iload 4, 2) := by decide +kernel
theorem dX11_setup_91 : decode cX11_setup 91 = .ok (.bipush (-4), 2) := by decide +kernel
theorem dX11_setup_93 : decode cX11_setup 93 = .ok (.if_icmp .eq 10, 3) := by decide +kernel
theorem dX11_setup_96 : decode cX11_setup 96 = .ok (.iload 7, 2) := by decide +kernel
theorem dX11_setup_98 : decode cX11_setup 98 = .ok (.iload 4, 2) := by decide +kernel
theorem dX11_setup_100 : decode cX11_setup 100 = .ok (.if_icmp .ge 7, 3) := by decide +kernel
theorem dX11_setup_103 : decode cX11_setup 103 = .ok (.iconst 1, 1) := by decide +kernel
theorem dX11_setup_104 : decode cX11_setup 104 = .ok (.goto 4, 3) := by decide +kernel
theorem dX11_setup_107 : decode cX11_setup 107 = .ok (.iconst 0, 1) := by decide +kernel
theorem dX11_setup_108 : decode cX11_setup 108 = .ok (.istore 8, 2) := by decide +kernel
theorem dX11_setup_110 : decode cX11_setup 110 = .ok (.iload 8, 2) := by decide +kernel
theorem dX11_setup_112 : decode cX11_setup 112 = .ok (.ifCond .eq 8, 3) := by decide +kernel
theorem dX11_setup_115 : decode cX11_setup 115 = .ok (.iload 7, 2) := by decide +kernel
theorem dX11_setup_117 : decode cX11_setup 117 = .ok (.goto 5, 3) := by decide +kernel
theorem dX11_setup_120 : decode cX11_setup 120 = .ok (.iload 4, 2) := by decide +kernel
theorem dX11_setup_122 : decode cX11_setup 122 = .ok (.istore 4, 2) := by decide +kernel
theorem dX11_setup_124 : decode cX11_setup 124 = .ok (.iload 8, 2) := by decide +kernel
theorem dX11_setup_126 : decode cX11_setup 126 = .ok (.ifCond .eq 8, 3) := by decide +kernel
theorem dX11_setup_129 : decode cX11_setup 129 = .ok (.iload 6, 2) := by decide +kernel
theorem dX11_setup_131 : decode cX11_setup 131 = .ok (.goto 5, 3) := by decide +kernel
theorem dX11_setup_134 : decode cX11_setup 134 = .ok (.iload 5, 2) := by decide +kernel
theorem dX11_setup_136 : decode cX11_setup 136 = .ok (.istore 5, 2) := by decide +kernel
theorem dX11_setup_138 : decode cX11_setup 138 = .ok (.iinc 6 1, 3) := by decide +kernel
theorem dX11_setup_141 : decode cX11_setup 141 = .ok (.goto (-102), 3) := by decide +kernel
theorem dX11_setup_144 : decode cX11_setup 144 = .ok (.iload_n 3, 1) := by decide +kernel
theorem dX11_setup_145 : decode cX11_setup 145 = .ok (.iconst 2, 1) := by decide +kernel
theorem dX11_setup_146 : decode cX11_setup 146 = .ok (.irem, 1) := by decide +kernel
theorem dX11_setup_147 : decode cX11_setup 147 = .ok (.ifCond .ne 8, 3) := by decide +kernel
theorem dX11_setup_150 : decode cX11_setup 150 = .ok (.iload 4, 2) := by decide +kernel
theorem dX11_setup_152 : decode cX11_setup 152 = .ok (.goto 5, 3) := by decide +kernel
theorem dX11_setup_155 : decode cX11_setup 155 = .ok (.iload 5, 2) := by decide +kernel
theorem dX11_setup_157 : decode cX11_setup 157 = .ok (.ireturn, 1) := by decide +kernel
theorem dX11_tight_0 : decode cX11_tight 0 = .ok (.iload_n 1, 1) := by decide +kernel
theorem dX11_tight_1 : decode cX11_tight 1 = .ok (.invokestatic 206, 3) := by decide +kernel
theorem dX11_tight_4 : decode cX11_tight 4 = .ok (.ifCond .eq 35, 3) := by decide +kernel
theorem dX11_tight_7 : decode cX11_tight 7 = .ok (.iload_n 2, 1) := by decide +kernel
theorem dX11_tight_8 : decode cX11_tight 8 = .ok (.invokestatic 206, 3) := by decide +kernel
theorem dX11_tight_11 : decode cX11_tight 11 = .ok (.ifCond .eq 28, 3) := by decide +kernel
theorem dX11_tight_14 : decode cX11_tight 14 = .ok (.iload_n 3, 1) := by decide +kernel
theorem dX11_tight_15 : decode cX11_tight 15 = .ok (.i2l, 1) := by decide +kernel
theorem dX11_tight_16 : decode cX11_tight 16 = .ok (.lconst 0, 1) := by decide +kernel
theorem dX11_tight_17 : decode cX11_tight 17 = .ok (.ldc2_w 147, 3) := by decide +kernel
theorem dX11_tight_20 : decode cX11_tight 20 = .ok (.invokestatic 58, 3) := by decide +kernel
theorem dX11_tight_23 : decode cX11_tight 23 = .ok (.ifCond .eq 16, 3) := by decide +kernel
theorem dX11_tight_26 : decode cX11_tight 26 = .ok (.iload 4, 2) := by decide +kernel
theorem dX11_tight_28 : decode cX11_tight 28 = .ok (.i2l, 1) := by decide +kernel
theorem dX11_tight_29 : decode cX11_tight 29 = .ok (.lconst 0, 1) := by decide +kernel
theorem dX11_tight_30 : decode cX11_tight 30 = .ok (.ldc2_w 147, 3) := by decide +kernel
theorem dX11_tight_33 : decode cX11_tight 33 = .ok (.invokestatic 58, 3) := by decide +kernel
theorem dX11_tight_36 : decode cX11_tight 36 = .ok (.ifCond .ne 5, 3) := by decide +kernel
theorem dX11_tight_39 : decode cX11_tight 39 = .ok (.iconst (-1), 1) := by decide +kernel
theorem dX11_tight_40 : decode cX11_tight 40 = .ok (.ireturn, 1) := by decide +kernel
theorem dX11_tight_41 : decode cX11_tight 41 = .ok (.iconst 0, 1) := by decide +kernel
theorem dX11_tight_42 : decode cX11_tight 42 = .ok (.istore 5, 2) := by decide +kernel
theorem dX11_tight_44 : decode cX11_tight 44 = .ok (.iconst 0, 1) := by decide +kernel
theorem dX11_tight_45 : decode cX11_tight 45 = .ok (.istore 6, 2) := by decide +kernel
theorem dX11_tight_47 : decode cX11_tight 47 = .ok (.iload 6, 2) := by decide +kernel
theorem dX11_tight_49 : decode cX11_tight 49 = .ok (.aload_n 0, 1) := by decide +kernel
theorem dX11_tight_50 : decode cX11_tight 50 = .ok (.getfield 144, 3) := by decide +kernel
theorem dX11_tight_53 : decode cX11_tight 53 = .ok (.if_icmp .ge 77, 3) := by decide +kernel
theorem dX11_tight_56 : decode cX11_tight 56 = .ok (.aload_n 0, 1) := by decide +kernel
theorem dX11_tight_57 : decode cX11_tight 57 = .ok (.iload_n 1, 1) := by decide +kernel
theorem dX11_tight_58 : decode cX11_tight 58 = .ok (.iload 6, 2) := by decide +kernel
theorem dX11_tight_60 : decode cX11_tight 60 = .ok (.invokevirtual 159, 3) := by decide +kernel
theorem dX11_tight_63 : decode cX11_tight 63 = .ok (.ifCond .eq 61, 3) := by decide +kernel
theorem dX11_tight_66 : decode cX11_tight 66 = .ok (.aload_n 0, 1) := by decide +kernel
theorem dX11_tight_67 : decode cX11_tight 67 = .ok (.iload_n 2, 1) := by decide +kernel
theorem dX11_tight_68 : decode cX11_tight 68 = .ok (.iload 6, 2) := by decide +kernel
theorem dX11_tight_70 : decode cX11_tight 70 = .ok (.invokevirtual 253, 3) := by decide +kernel
theorem dX11_tight_73 : decode cX11_tight 73 = .ok (.istore 7, 2) := by decide +kernel
theorem dX11_tight_75 : decode cX11_tight 75 = .ok (.aload_n 0, 1) := by decide +kernel
theorem dX11_tight_76 : decode cX11_tight 76 = .ok (.iload_n 2, 1) := by decide +kernel
theorem dX11_tight_77 : decode cX11_tight 77 = .ok (.iload 6, 2) := by decide +kernel
theorem dX11_tight_79 : decode cX11_tight 79 = .ok (.invokevirtual 256, 3) := by decide +kernel
theorem dX11_tight_82 : decode cX11_tight 82 = .ok (.istore 8, 2) := by decide +kernel
theorem dX11_tight_84 : decode cX11_tight 84 = .ok (.iload 5, 2) := by decide +kernel
theorem dX11_tight_86 : decode cX11_tight 86 = .ok (.iload 7, 2) := by decide +kernel
theorem dX11_tight_88 : decode cX11_tight 88 = .ok (.bipush (-4), 2) := by decide +kernel
theorem dX11_tight_90 : decode cX11_tight 90 = .ok (.if_icmp .eq 9, 3) := by decide +kernel
theorem dX11_tight_93 : decode cX11_tight 93 = .ok (.iload 7, 2) := by decide +kernel
theorem dX11_tight_95 : decode cX11_tight 95 = .ok (.iload_n 3, 1) := by decide +kernel
theorem dX11_tight_96 : decode cX11_tight 96 = .ok (.if_icmp .lt 17, 3) := by decide +kernel
theorem dX11_tight_99 : decode cX11_tight 99 = .ok (.iload 8, 2) := by decide +kernel
theorem dX11_tight_101 : decode cX11_tight 101 = .ok (.bipush (-4), 2) := by decide +kernel
theorem dX11_tight_103 : decode cX11_tight 103 = .ok (.if_icmp .eq 14, 3) := by decide +kernel
theorem dX11_tight_106 : decode cX11_tight 106 = .ok (.iload 8, 2) := by decide +kernel
theorem dX11_tight_108 : decode cX11_tight 108 = .ok (.iload 4, 2) := by decide +kernel
theorem dX11_tight_110 : decode cX11_tight 110 = .ok (.if_icmp .ge 7, 3) := by decide +kernel
theorem dX11_tight_113 : decode cX11_tight 113 = .ok (.iconst 1, 1) := by decide +kernel
theorem dX11_tight_114 : decode cX11_tight 114 = .ok (.goto 4, 3) := by decide +kernel
theorem dX11_tight_117 : decode cX11_tight 117 = .ok (.iconst 0, 1) := by decide +kernel
theorem dX11_tight_118 : decode cX11_tight 118 = .ok (.invokestatic 213, 3) := by decide +kernel
theorem dX11_tight_121 : decode cX11_tight 121 = .ok (.iadd, 1) := by decide +kernel
theorem dX11_tight_122 : decode cX11_tight 122 = .ok (.istore 5, 2) := by decide +kernel
theorem dX11_tight_124 : decode cX11_tight 124 = .ok (.iinc 6 1, 3) := by decide +kernel
theorem dX11_tight_127 : decode cX11_tight 127 = .ok (.goto (-80), 3) := by decide +kernel
theorem dX11_tight_130 : decode cX11_tight 130 = .ok (.iload 5, 2) := by decide +kernel
theorem dX11_tight_132 : decode cX11_tight 132 = .ok (.ireturn, 1) := by decide +kernel
theorem dX11_bits_0 : decode cX11_bits 0 = .ok (.iload_n 1, 1) := by decide +kernel
theorem dX11_bits_1 : decode cX11_bits 1 = .ok (.invokestatic 206, 3) := by decide +kernel
theorem dX11_bits_4 : decode cX11_bits 4 = .ok (.ifCond .eq 37, 3) := by decide +kernel
theorem dX11_bits_7 : decode cX11_bits 7 = .ok (.iload_n 2, 1) := by decide +kernel
theorem dX11_bits_8 : decode cX11_bits 8 = .ok (.invokestatic 206, 3) := by decide +kernel
theorem dX11_bits_11 : decode cX11_bits 11 = .ok (.ifCond .eq 30, 3) := by decide +kernel
theorem dX11_bits_14 : decode cX11_bits 14 = .ok (.iload_n 3, 1) := by decide +kernel
theorem dX11_bits_15 : decode cX11_bits 15 = .ok (.invokestatic 206, 3) := by decide +kernel
theorem dX11_bits_18 : decode cX11_bits 18 = .ok (.ifCond .eq 23, 3) := by decide +kernel
theorem dX11_bits_21 : decode cX11_bits 21 = .ok (.iload 4, 2) := by decide +kernel
theorem dX11_bits_23 : decode cX11_bits 23 = .ok (.i2l, 1) := by decide +kernel
theorem dX11_bits_24 : decode cX11_bits 24 = .ok (.lconst 0, 1) := by decide +kernel
theorem dX11_bits_25 : decode cX11_bits 25 = .ok (.ldc2_w 138, 3) := by decide +kernel
theorem dX11_bits_28 : decode cX11_bits 28 = .ok (.invokestatic 58, 3) := by decide +kernel
theorem dX11_bits_31 : decode cX11_bits 31 = .ok (.ifCond .ne 12, 3) := by decide +kernel
theorem dX11_bits_34 : decode cX11_bits 34 = .ok (.iload 4, 2) := by decide +kernel
theorem dX11_bits_36 : decode cX11_bits 36 = .ok (.bipush 10, 2) := by decide +kernel
theorem dX11_bits_38 : decode cX11_bits 38 = .ok (.if_icmp .ge 5, 3) := by decide +kernel
theorem dX11_bits_41 : decode cX11_bits 41 = .ok (.iconst (-1), 1) := by decide +kernel
theorem dX11_bits_42 : decode cX11_bits 42 = .ok (.ireturn, 1) := by decide +kernel
theorem dX11_bits_43 : decode cX11_bits 43 = .ok (.iconst 0, 1) := by decide +kernel
theorem dX11_bits_44 : decode cX11_bits 44 = .ok (.istore 5, 2) := by decide +kernel
theorem dX11_bits_46 : decode cX11_bits 46 = .ok (.iconst 0, 1) := by decide +kernel
theorem dX11_bits_47 : decode cX11_bits 47 = .ok (.istore 6, 2) := by decide +kernel
theorem dX11_bits_49 : decode cX11_bits 49 = .ok (.iconst 0, 1) := by decide +kernel
theorem dX11_bits_50 : decode cX11_bits 50 = .ok (.istore 7, 2) := by decide +kernel
theorem dX11_bits_52 : decode cX11_bits 52 = .ok (.iconst 0, 1) := by decide +kernel
theorem dX11_bits_53 : decode cX11_bits 53 = .ok (.istore 8, 2) := by decide +kernel
theorem dX11_bits_55 : decode cX11_bits 55 = .ok (.iconst (-1), 1) := by decide +kernel
theorem dX11_bits_56 : decode cX11_bits 56 = .ok (.istore 9, 2) := by decide +kernel
theorem dX11_bits_58 : decode cX11_bits 58 = .ok (.iconst 0, 1) := by decide +kernel
theorem dX11_bits_59 : decode cX11_bits 59 = .ok (.istore 10, 2) := by decide +kernel
theorem dX11_bits_61 : decode cX11_bits 61 = .ok (.iload 10, 2) := by decide +kernel
theorem dX11_bits_63 : decode cX11_bits 63 = .ok (.aload_n 0, 1) := by decide +kernel
theorem dX11_bits_64 : decode cX11_bits 64 = .ok (.getfield 144, 3) := by decide +kernel
theorem dX11_bits_67 : decode cX11_bits 67 = .ok (.if_icmp .ge 100, 3) := by decide +kernel
theorem dX11_bits_70 : decode cX11_bits 70 = .ok (.aload_n 0, 1) := by decide +kernel
theorem dX11_bits_71 : decode cX11_bits 71 = .ok (.iload_n 3, 1) := by decide +kernel
theorem dX11_bits_72 : decode cX11_bits 72 = .ok (.iload 10, 2) := by decide +kernel
theorem dX11_bits_74 : decode cX11_bits 74 = .ok (.invokevirtual 155, 3) := by decide +kernel
theorem dX11_bits_77 : decode cX11_bits 77 = .ok (.ifCond .eq 19, 3) := by decide +kernel
theorem dX11_bits_80 : decode cX11_bits 80 = .ok (.iload 6, 2) := by decide +kernel
theorem dX11_bits_82 : decode cX11_bits 82 = .ok (.iload 7, 2) := by decide +kernel
theorem dX11_bits_84 : decode cX11_bits 84 = .ok (.iadd, 1) := by decide +kernel
theorem dX11_bits_85 : decode cX11_bits 85 = .ok (.istore 6, 2) := by decide +kernel
theorem dX11_bits_87 : decode cX11_bits 87 = .ok (.iconst 0, 1) := by decide +kernel
theorem dX11_bits_88 : decode cX11_bits 88 = .ok (.istore 7, 2) := by decide +kernel
theorem dX11_bits_90 : decode cX11_bits 90 = .ok (.iconst 0, 1) := by decide +kernel
theorem dX11_bits_91 : decode cX11_bits 91 = .ok (.istore 8, 2) := by decide +kernel
theorem dX11_bits_93 : decode cX11_bits 93 = .ok (.goto 68, 3) := by decide +kernel
theorem dX11_bits_96 : decode cX11_bits 96 = .ok (.aload_n 0, 1) := by decide +kernel
theorem dX11_bits_97 : decode cX11_bits 97 = .ok (.iload_n 1, 1) := by decide +kernel
theorem dX11_bits_98 : decode cX11_bits 98 = .ok (.iload 10, 2) := by decide +kernel
theorem dX11_bits_100 : decode cX11_bits 100 = .ok (.invokevirtual 159, 3) := by decide +kernel
theorem dX11_bits_103 : decode cX11_bits 103 = .ok (.ifCond .eq 58, 3) := by decide +kernel
theorem dX11_bits_106 : decode cX11_bits 106 = .ok (.iconst 2, 1) := by decide +kernel
theorem dX11_bits_107 : decode cX11_bits 107 = .ok (.iload 8, 2) := by decide +kernel
theorem dX11_bits_109 : decode cX11_bits 109 = .ok (.imul, 1) := by decide +kernel
theorem dX11_bits_110 : decode cX11_bits 110 = .ok (.aload_n 0, 1) := by decide +kernel
theorem dX11_bits_111 : decode cX11_bits 111 = .ok (.iload_n 2, 1) := by decide +kernel
theorem dX11_bits_112 : decode cX11_bits 112 = .ok (.iload 10, 2) := by decide +kernel
theorem dX11_bits_114 : decode cX11_bits 114 = .ok (.invokevirtual 155, 3) := by decide +kernel
theorem dX11_bits_117 : decode cX11_bits 117 = .ok (.invokestatic 213, 3) := by decide +kernel
theorem dX11_bits_120 : decode cX11_bits 120 = .ok (.iadd, 1) := by decide +kernel
theorem dX11_bits_121 : decode cX11_bits 121 = .ok (.istore 8, 2) := by decide +kernel
theorem dX11_bits_123 : decode cX11_bits 123 = .ok (.iinc 7 1, 3) := by decide +kernel
theorem dX11_bits_126 : decode cX11_bits 126 = .ok (.iload 7, 2) := by decide +kernel
theorem dX11_bits_128 : decode cX11_bits 128 = .ok (.bipush 8, 2) := by decide +kernel
theorem dX11_bits_130 : decode cX11_bits 130 = .ok (.if_icmp .ne 31, 3) := by decide +kernel
theorem dX11_bits_133 : decode cX11_bits 133 = .ok (.iload 5, 2) := by decide +kernel
theorem dX11_bits_135 : decode cX11_bits 135 = .ok (.iload 4, 2) := by decide +kernel
theorem dX11_bits_137 : decode cX11_bits 137 = .ok (.bipush 10, 2) := by decide +kernel
theorem dX11_bits_139 : decode cX11_bits 139 = .ok (.isub, 1) := by decide +kernel
theorem dX11_bits_140 : decode cX11_bits 140 = .ok (.if_icmp .ne 8, 3) := by decide +kernel
theorem dX11_bits_143 : decode cX11_bits 143 = .ok (.iload 8, 2) := by decide +kernel
theorem dX11_bits_145 : decode cX11_bits 145 = .ok (.goto 5, 3) := by decide +kernel
theorem dX11_bits_148 : decode cX11_bits 148 = .ok (.iload 9, 2) := by decide +kernel
theorem dX11_bits_150 : decode cX11_bits 150 = .ok (.istore 9, 2) := by decide +kernel
theorem dX11_bits_152 : decode cX11_bits 152 = .ok (.iinc 5 1, 3) := by decide +kernel
theorem dX11_bits_155 : decode cX11_bits 155 = .ok (.iconst 0, 1) := by decide +kernel
theorem dX11_bits_156 : decode cX11_bits 156 = .ok (.istore 7, 2) := by decide +kernel
theorem dX11_bits_158 : decode cX11_bits 158 = .ok (.iconst 0, 1) := by decide +kernel
theorem dX11_bits_159 : decode cX11_bits 159 = .ok (.istore 8, 2) := by decide +kernel
theorem dX11_bits_161 : decode cX11_bits 161 = .ok (.iinc 10 1, 3) := by decide +kernel
theorem dX11_bits_164 : decode cX11_bits 164 = .ok (.goto (-103), 3) := by decide +kernel
theorem dX11_bits_167 : decode cX11_bits 167 = .ok (.iload 4, 2) := by decide +kernel
theorem dX11_bits_169 : decode cX11_bits 169 = .ok (.ifCond .ne 8, 3) := by decide +kernel
theorem dX11_bits_172 : decode cX11_bits 172 = .ok (.iload 5, 2) := by decide +kernel
theorem dX11_bits_174 : decode cX11_bits 174 = .ok (.goto 27, 3) := by decide +kernel
theorem dX11_bits_177 : decode cX11_bits 177 = .ok (.iload 4, 2) := by decide +kernel
theorem dX11_bits_179 : decode cX11_bits 179 = .ok (.iconst 1, 1) := by decide +kernel
theorem dX11_bits_180 : decode cX11_bits 180 = .ok (.if_icmp .ne 8, 3) := by decide +kernel
theorem dX11_bits_183 : decode cX11_bits 183 = .ok (.iload 6, 2) := by decide +kernel
theorem dX11_bits_185 : decode cX11_bits 185 = .ok (.goto 16, 3) := by decide +kernel
theorem dX11_bits_188 : decode cX11_bits 188 = .ok (.iload 4, 2) := by decide +kernel
theorem dX11_bits_190 : decode cX11_bits 190 = .ok (.iconst 2, 1) := by decide +kernel
theorem dX11_bits_191 : decode cX11_bits 191 = .ok (.if_icmp .ne 8, 3) := by decide +kernel
theorem dX11_bits_194 : decode cX11_bits 194 = .ok (.iload 7, 2) := by decide +kernel
theorem dX11_bits_196 : decode cX11_bits 196 = .ok (.goto 5, 3) := by decide +kernel
theorem dX11_bits_199 : decode cX11_bits 199 = .ok (.iload 9, 2) := by decide +kernel
theorem dX11_bits_201 : decode cX11_bits 201 = .ok (.ireturn, 1) := by decide +kernel
theorem dX11_layFrames_0 : decode cX11_layFrames 0 = .ok (.aload_n 0, 1) := by decide +kernel
theorem dX11_layFrames_1 : decode cX11_layFrames 1 = .ok (.iconst 0, 1) := by decide +kernel
theorem dX11_layFrames_2 : decode cX11_layFrames 2 = .ok (.putfield 259, 3) := by decide +kernel
theorem dX11_layFrames_5 : decode cX11_layFrames 5 = .ok (.aload_n 0, 1) := by decide +kernel
theorem dX11_layFrames_6 : decode cX11_layFrames 6 = .ok (.iconst 0, 1) := by decide +kernel
theorem dX11_layFrames_7 : decode cX11_layFrames 7 = .ok (.putfield 262, 3) := by decide +kernel
theorem dX11_layFrames_10 : decode cX11_layFrames 10 = .ok (.aload_n 0, 1) := by decide +kernel
theorem dX11_layFrames_11 : decode cX11_layFrames 11 = .ok (.iconst (-1), 1) := by decide +kernel
theorem dX11_layFrames_12 : decode cX11_layFrames 12 = .ok (.putfield 265, 3) := by decide +kernel
theorem dX11_layFrames_15 : decode cX11_layFrames 15 = .ok (.iconst 0, 1) := by decide +kernel
theorem dX11_layFrames_16 : decode cX11_layFrames 16 = .ok (.istore 4, 2) := by decide +kernel
theorem dX11_layFrames_18 : decode cX11_layFrames 18 = .ok (.iload 4, 2) := by decide +kernel
theorem dX11_layFrames_20 : decode cX11_layFrames 20 = .ok (.aload_n 0, 1) := by decide +kernel
theorem dX11_layFrames_21 : decode cX11_layFrames 21 = .ok (.getfield 144, 3) := by decide +kernel
theorem dX11_layFrames_24 : decode cX11_layFrames 24 = .ok (.if_icmp .ge 206, 3) := by decide +kernel
theorem dX11_layFrames_27 : decode cX11_layFrames 27 = .ok (.iload 4, 2) := by decide +kernel
theorem dX11_layFrames_29 : decode cX11_layFrames 29 = .ok (.ifCond .ne 20, 3) := by decide +kernel
theorem dX11_layFrames_32 : decode cX11_layFrames 32 = .ok (.aload_n 0, 1) := by decide +kernel
theorem dX11_layFrames_33 : decode cX11_layFrames 33 = .ok (.iload_n 1, 1) := by decide +kernel
theorem dX11_layFrames_34 : decode cX11_layFrames 34 = .ok (.iconst 0, 1) := by decide +kernel
theorem dX11_layFrames_35 : decode cX11_layFrames 35 = .ok (.invokevirtual 155, 3) := by decide +kernel
theorem dX11_layFrames_38 : decode cX11_layFrames 38 = .ok (.ifCond .ne 7, 3) := by decide +kernel
theorem dX11_layFrames_41 : decode cX11_layFrames 41 = .ok (.iconst 1, 1) := by decide +kernel
theorem dX11_layFrames_42 : decode cX11_layFrames 42 = .ok (.goto 14, 3) := by decide +kernel
theorem dX11_layFrames_45 : decode cX11_layFrames 45 = .ok (.iconst 0, 1) := by decide +kernel
theorem dX11_layFrames_46 : decode cX11_layFrames 46 = .ok (.goto 10, 3) := by decide +kernel
theorem dX11_layFrames_49 : decode cX11_layFrames 49 = .ok (.aload_n 0, 1) := by decide +kernel
theorem dX11_layFrames_50 : decode cX11_layFrames 50 = .ok (.iload_n 1, 1) := by decide +kernel
theorem dX11_layFrames_51 : decode cX11_layFrames 51 = .ok (.iload 4, 2) := by decide +kernel
theorem dX11_layFrames_53 : decode cX11_layFrames 53 = .ok (.invokevirtual 162, 3) := by decide +kernel
theorem dX11_layFrames_56 : decode cX11_layFrames 56 = .ok (.istore 5, 2) := by decide +kernel
theorem dX11_layFrames_58 : decode cX11_layFrames 58 = .ok (.iload 4, 2) := by decide +kernel
theorem dX11_layFrames_60 : decode cX11_layFrames 60 = .ok (.bipush 9, 2) := by decide +kernel
theorem dX11_layFrames_62 : decode cX11_layFrames 62 = .ok (.iload_n 2, 1) := by decide +kernel
theorem dX11_layFrames_63 : decode cX11_layFrames 63 = .ok (.imul, 1) := by decide +kernel
theorem dX11_layFrames_64 : decode cX11_layFrames 64 = .ok (.iadd, 1) := by decide +kernel
theorem dX11_layFrames_65 : decode cX11_layFrames 65 = .ok (.iload_n 2, 1) := by decide +kernel
theorem dX11_layFrames_66 : decode cX11_layFrames 66 = .ok (.iconst 2, 1) := by decide +kernel
theorem dX11_layFrames_67 : decode cX11_layFrames 67 = .ok (.idiv, 1) := by decide +kernel
theorem dX11_layFrames_68 : decode cX11_layFrames 68 = .ok (.iadd, 1) := by decide +kernel
theorem dX11_layFrames_69 : decode cX11_layFrames 69 = .ok (.istore 6, 2) := by decide +kernel
theorem dX11_layFrames_71 : decode cX11_layFrames 71 = .ok (.iload 5, 2) := by decide +kernel
theorem dX11_layFrames_73 : decode cX11_layFrames 73 = .ok (.ifCond .eq 13, 3) := by decide +kernel
theorem dX11_layFrames_76 : decode cX11_layFrames 76 = .ok (.iload 6, 2) := by decide +kernel
theorem dX11_layFrames_78 : decode cX11_layFrames 78 = .ok (.aload_n 0, 1) := by decide +kernel
theorem dX11_layFrames_79 : decode cX11_layFrames 79 = .ok (.getfield 144, 3) := by decide +kernel
theorem dX11_layFrames_82 : decode cX11_layFrames 82 = .ok (.if_icmp .lt 4, 3) := by decide +kernel
theorem dX11_layFrames_85 : decode cX11_layFrames 85 = .ok (.return_, 1) := by decide +kernel
theorem dX11_layFrames_86 : decode cX11_layFrames 86 = .ok (.iload 5, 2) := by decide +kernel
theorem dX11_layFrames_88 : decode cX11_layFrames 88 = .ok (.ifCond .eq 136, 3) := by decide +kernel
theorem dX11_layFrames_91 : decode cX11_layFrames 91 = .ok (.iconst 0, 1) := by decide +kernel
theorem dX11_layFrames_92 : decode cX11_layFrames 92 = .ok (.istore 7, 2) := by decide +kernel
theorem dX11_layFrames_94 : decode cX11_layFrames 94 = .ok (.iconst 0, 1) := by decide +kernel
theorem dX11_layFrames_95 : decode cX11_layFrames 95 = .ok (.istore 8, 2) := by decide +kernel
theorem dX11_layFrames_97 : decode cX11_layFrames 97 = .ok (.iload 8, 2) := by decide +kernel
theorem dX11_layFrames_99 : decode cX11_layFrames 99 = .ok (.bipush 8, 2) := by decide +kernel
theorem dX11_layFrames_101 : decode cX11_layFrames 101 = .ok (.if_icmp .ge 38, 3) := by decide +kernel
theorem dX11_layFrames_104 : decode cX11_layFrames 104 = .ok (.iload 7, 2) := by decide +kernel
theorem dX11_layFrames_106 : decode cX11_layFrames 106 = .ok (.aload_n 0, 1) := by decide +kernel
theorem dX11_layFrames_107 : decode cX11_layFrames 107 = .ok (.iload_n 1, 1) := by decide +kernel
theorem dX11_layFrames_108 : decode cX11_layFrames 108 = .ok (.iload 4, 2) := by decide +kernel
theorem dX11_layFrames_110 : decode cX11_layFrames 110 = .ok (.iload 8, 2) := by decide +kernel
theorem dX11_layFrames_112 : decode cX11_layFrames 112 = .ok (.iconst 1, 1) := by decide +kernel
theorem dX11_layFrames_113 : decode cX11_layFrames 113 = .ok (.iadd, 1) := by decide +kernel
theorem dX11_layFrames_114 : decode cX11_layFrames 114 = .ok (.iload_n 2, 1) := by decide +kernel
theorem dX11_layFrames_115 : decode cX11_layFrames 115 = .ok (.imul, 1) := by decide +kernel
theorem dX11_layFrames_116 : decode cX11_layFrames 116 = .ok (.iadd, 1) := by decide +kernel
theorem dX11_layFrames_117 : decode cX11_layFrames 117 = .ok (.iload_n 2, 1) := by decide +kernel
theorem dX11_layFrames_118 : decode cX11_layFrames 118 = .ok (.iconst 2, 1) := by decide +kernel
theorem dX11_layFrames_119 : decode cX11_layFrames 119 = .ok (.idiv, 1) := by decide +kernel
theorem dX11_layFrames_120 : decode cX11_layFrames 120 = .ok (.iadd, 1) := by decide +kernel
theorem dX11_layFrames_121 : decode cX11_layFrames 121 = .ok (.invokevirtual 155, 3) := by decide +kernel
theorem dX11_layFrames_124 : decode cX11_layFrames 124 = .ok (.invokestatic 213, 3) := by decide +kernel
theorem dX11_layFrames_127 : decode cX11_layFrames 127 = .ok (.iload 8, 2) := by decide +kernel
theorem dX11_layFrames_129 : decode cX11_layFrames 129 = .ok (.ishl, 1) := by decide +kernel
theorem dX11_layFrames_130 : decode cX11_layFrames 130 = .ok (.ior, 1) := by decide +kernel
theorem dX11_layFrames_131 : decode cX11_layFrames 131 = .ok (.istore 7, 2) := by decide +kernel
theorem dX11_layFrames_133 : decode cX11_layFrames 133 = .ok (.iinc 8 1, 3) := by decide +kernel
theorem dX11_layFrames_136 : decode cX11_layFrames 136 = .ok (.goto (-39), 3) := by decide +kernel
theorem dX11_layFrames_139 : decode cX11_layFrames 139 = .ok (.aload_n 0, 1) := by decide +kernel
theorem dX11_layFrames_140 : decode cX11_layFrames 140 = .ok (.iload_n 1, 1) := by decide +kernel
theorem dX11_layFrames_141 : decode cX11_layFrames 141 = .ok (.iload 6, 2) := by decide +kernel
theorem dX11_layFrames_143 : decode cX11_layFrames 143 = .ok (.invokevirtual 155, 3) := by decide +kernel
theorem dX11_layFrames_146 : decode cX11_layFrames 146 = .ok (.istore 8, 2) := by decide +kernel
theorem dX11_layFrames_148 : decode cX11_layFrames 148 = .ok (.aload_n 0, 1) := by decide +kernel
theorem dX11_layFrames_149 : decode cX11_layFrames 149 = .ok (.aload_n 0, 1) := by decide +kernel
theorem dX11_layFrames_150 : decode cX11_layFrames 150 = .ok (.getfield 259, 3) := by decide +kernel
theorem dX11_layFrames_153 : decode cX11_layFrames 153 = .ok (.aload_n 0, 1) := by decide +kernel
theorem dX11_layFrames_154 : decode cX11_layFrames 154 = .ok (.getfield 262, 3) := by decide +kernel
theorem dX11_layFrames_157 : decode cX11_layFrames 157 = .ok (.iadd, 1) := by decide +kernel
theorem dX11_layFrames_158 : decode cX11_layFrames 158 = .ok (.iload_n 3, 1) := by decide +kernel
theorem dX11_layFrames_159 : decode cX11_layFrames 159 = .ok (.if_icmp .ne 18, 3) := by decide +kernel
theorem dX11_layFrames_162 : decode cX11_layFrames 162 = .ok (.iload 8, 2) := by decide +kernel
theorem dX11_layFrames_164 : decode cX11_layFrames 164 = .ok (.ifCond .eq 8, 3) := by decide +kernel
theorem dX11_layFrames_167 : decode cX11_layFrames 167 = .ok (.iload 7, 2) := by decide +kernel
theorem dX11_layFrames_169 : decode cX11_layFrames 169 = .ok (.goto 12, 3) := by decide +kernel
theorem dX11_layFrames_172 : decode cX11_layFrames 172 = .ok (.bipush (-5), 2) := by decide +kernel
theorem dX11_layFrames_174 : decode cX11_layFrames 174 = .ok (.goto 7, 3) := by decide +kernel
theorem dX11_layFrames_177 : decode cX11_layFrames 177 = .ok (.aload_n 0, 1) := by decide +kernel
theorem dX11_layFrames_178 : decode cX11_layFrames 178 = .ok (.getfield 265, 3) := by decide +kernel
theorem dX11_layFrames_181 : decode cX11_layFrames 181 = .ok (.putfield 265, 3) := by decide +kernel
theorem dX11_layFrames_184 : decode cX11_layFrames 184 = .ok (.aload_n 0, 1) := by decide +kernel
theorem dX11_layFrames_185 : decode cX11_layFrames 185 = .ok (.dup, 1) := by decide +kernel
theorem dX11_layFrames_186 : decode cX11_layFrames 186 = .ok (.getfield 259, 3) := by decide +kernel
theorem dX11_layFrames_189 : decode cX11_layFrames 189 = .ok (.iload 8, 2) := by decide +kernel
theorem dX11_layFrames_191 : decode cX11_layFrames 191 = .ok (.invokestatic 213, 3) := by decide +kernel
theorem dX11_layFrames_194 : decode cX11_layFrames 194 = .ok (.iadd, 1) := by decide +kernel
theorem dX11_layFrames_195 : decode cX11_layFrames 195 = .ok (.putfield 259, 3) := by decide +kernel
theorem dX11_layFrames_198 : decode cX11_layFrames 198 = .ok (.aload_n 0, 1) := by decide +kernel
theorem dX11_layFrames_199 : decode cX11_layFrames 199 = .ok (.dup, 1) := by decide +kernel
theorem dX11_layFrames_200 : decode cX11_layFrames 200 = .ok (.getfield 262, 3) := by decide +kernel
theorem dX11_layFrames_203 : decode cX11_layFrames 203 = .ok (.iload 8, 2) := by decide +kernel
theorem dX11_layFrames_205 : decode cX11_layFrames 205 = .ok (.ifCond .ne 7, 3) := by decide +kernel
theorem dX11_layFrames_208 : decode cX11_layFrames 208 = .ok (.iconst 1, 1) := by decide +kernel
theorem dX11_layFrames_209 : decode cX11_layFrames 209 = .ok (.goto 4, 3) := by decide +kernel
theorem dX11_layFrames_212 : decode cX11_layFrames 212 = .ok (.iconst 0, 1) := by decide +kernel
theorem dX11_layFrames_213 : decode cX11_layFrames 213 = .ok (.invokestatic 213, 3) := by decide +kernel
theorem dX11_layFrames_216 : decode cX11_layFrames 216 = .ok (.iadd, 1) := by decide +kernel
theorem dX11_layFrames_217 : decode cX11_layFrames 217 = .ok (.putfield 262, 3) := by decide +kernel
theorem dX11_layFrames_220 : decode cX11_layFrames 220 = .ok (.iload 6, 2) := by decide +kernel
theorem dX11_layFrames_222 : decode cX11_layFrames 222 = .ok (.istore 4, 2) := by decide +kernel
theorem dX11_layFrames_224 : decode cX11_layFrames 224 = .ok (.iinc 4 1, 3) := by decide +kernel
theorem dX11_layFrames_227 : decode cX11_layFrames 227 = .ok (.goto (-209), 3) := by decide +kernel
theorem dX11_layFrames_230 : decode cX11_layFrames 230 = .ok (.return_, 1) := by decide +kernel
theorem dX11_isRate_0 : decode cX11_isRate 0 = .ok (.iload_n 0, 1) := by decide +kernel
theorem dX11_isRate_1 : decode cX11_isRate 1 = .ok (.i2l, 1) := by decide +kernel
theorem dX11_isRate_2 : decode cX11_isRate 2 = .ok (.ldc2_w 138, 3) := by decide +kernel
theorem dX11_isRate_5 : decode cX11_isRate 5 = .ok (.ldc2_w 268, 3) := by decide +kernel
theorem dX11_isRate_8 : decode cX11_isRate 8 = .ok (.invokestatic 58, 3) := by decide +kernel
theorem dX11_isRate_11 : decode cX11_isRate 11 = .ok (.ireturn, 1) := by decide +kernel
theorem dX11_serial_0 : decode cX11_serial 0 = .ok (.iload_n 1, 1) := by decide +kernel
theorem dX11_serial_1 : decode cX11_serial 1 = .ok (.invokestatic 206, 3) := by decide +kernel
theorem dX11_serial_4 : decode cX11_serial 4 = .ok (.ifCond .eq 26, 3) := by decide +kernel
theorem dX11_serial_7 : decode cX11_serial 7 = .ok (.iload_n 2, 1) := by decide +kernel
theorem dX11_serial_8 : decode cX11_serial 8 = .ok (.invokestatic 270, 3) := by decide +kernel
theorem dX11_serial_11 : decode cX11_serial 11 = .ok (.ifCond .eq 19, 3) := by decide +kernel
theorem dX11_serial_14 : decode cX11_serial 14 = .ok (.iload_n 3, 1) := by decide +kernel
theorem dX11_serial_15 : decode cX11_serial 15 = .ok (.i2l, 1) := by decide +kernel
theorem dX11_serial_16 : decode cX11_serial 16 = .ok (.lconst 0, 1) := by decide +kernel
theorem dX11_serial_17 : decode cX11_serial 17 = .ok (.lconst 1, 1) := by decide +kernel
theorem dX11_serial_18 : decode cX11_serial 18 = .ok (.invokestatic 58, 3) := by decide +kernel
theorem dX11_serial_21 : decode cX11_serial 21 = .ok (.ifCond .ne 11, 3) := by decide +kernel
theorem dX11_serial_24 : decode cX11_serial 24 = .ok (.iload_n 3, 1) := by decide +kernel
theorem dX11_serial_25 : decode cX11_serial 25 = .ok (.bipush 10, 2) := by decide +kernel
theorem dX11_serial_27 : decode cX11_serial 27 = .ok (.if_icmp .ge 5, 3) := by decide +kernel
theorem dX11_serial_30 : decode cX11_serial 30 = .ok (.iconst (-1), 1) := by decide +kernel
theorem dX11_serial_31 : decode cX11_serial 31 = .ok (.ireturn, 1) := by decide +kernel
theorem dX11_serial_32 : decode cX11_serial 32 = .ok (.aload_n 0, 1) := by decide +kernel
theorem dX11_serial_33 : decode cX11_serial 33 = .ok (.iload_n 1, 1) := by decide +kernel
theorem dX11_serial_34 : decode cX11_serial 34 = .ok (.iload_n 2, 1) := by decide +kernel
theorem dX11_serial_35 : decode cX11_serial 35 = .ok (.iload_n 3, 1) := by decide +kernel
theorem dX11_serial_36 : decode cX11_serial 36 = .ok (.bipush 10, 2) := by decide +kernel
theorem dX11_serial_38 : decode cX11_serial 38 = .ok (.isub, 1) := by decide +kernel
theorem dX11_serial_39 : decode cX11_serial 39 = .ok (.invokevirtual 273, 3) := by decide +kernel
theorem dX11_serial_42 : decode cX11_serial 42 = .ok (.iload_n 3, 1) := by decide +kernel
theorem dX11_serial_43 : decode cX11_serial 43 = .ok (.ifCond .ne 10, 3) := by decide +kernel
theorem dX11_serial_46 : decode cX11_serial 46 = .ok (.aload_n 0, 1) := by decide +kernel
theorem dX11_serial_47 : decode cX11_serial 47 = .ok (.getfield 259, 3) := by decide +kernel
theorem dX11_serial_50 : decode cX11_serial 50 = .ok (.goto 19, 3) := by decide +kernel
theorem dX11_serial_53 : decode cX11_serial 53 = .ok (.iload_n 3, 1) := by decide +kernel
theorem dX11_serial_54 : decode cX11_serial 54 = .ok (.iconst 1, 1) := by decide +kernel
theorem dX11_serial_55 : decode cX11_serial 55 = .ok (.if_icmp .ne 10, 3) := by decide +kernel
theorem dX11_serial_58 : decode cX11_serial 58 = .ok (.aload_n 0, 1) := by decide +kernel
theorem dX11_serial_59 : decode cX11_serial 59 = .ok (.getfield 262, 3) := by decide +kernel
theorem dX11_serial_62 : decode cX11_serial 62 = .ok (.goto 7, 3) := by decide +kernel
theorem dX11_serial_65 : decode cX11_serial 65 = .ok (.aload_n 0, 1) := by decide +kernel
theorem dX11_serial_66 : decode cX11_serial 66 = .ok (.getfield 265, 3) := by decide +kernel
theorem dX11_serial_69 : decode cX11_serial 69 = .ok (.ireturn, 1) := by decide +kernel
theorem dX11_rate_0 : decode cX11_rate 0 = .ok (.iload_n 1, 1) := by decide +kernel
theorem dX11_rate_1 : decode cX11_rate 1 = .ok (.invokestatic 206, 3) := by decide +kernel
theorem dX11_rate_4 : decode cX11_rate 4 = .ok (.ifCond .eq 15, 3) := by decide +kernel
theorem dX11_rate_7 : decode cX11_rate 7 = .ok (.iload_n 2, 1) := by decide +kernel
theorem dX11_rate_8 : decode cX11_rate 8 = .ok (.i2l, 1) := by decide +kernel
theorem dX11_rate_9 : decode cX11_rate 9 = .ok (.lconst 0, 1) := by decide +kernel
theorem dX11_rate_10 : decode cX11_rate 10 = .ok (.ldc2_w 138, 3) := by decide +kernel
theorem dX11_rate_13 : decode cX11_rate 13 = .ok (.invokestatic 58, 3) := by decide +kernel
theorem dX11_rate_16 : decode cX11_rate 16 = .ok (.ifCond .ne 5, 3) := by decide +kernel
theorem dX11_rate_19 : decode cX11_rate 19 = .ok (.iconst (-1), 1) := by decide +kernel
theorem dX11_rate_20 : decode cX11_rate 20 = .ok (.ireturn, 1) := by decide +kernel
theorem dX11_rate_21 : decode cX11_rate 21 = .ok (.bipush (-4), 2) := by decide +kernel
theorem dX11_rate_23 : decode cX11_rate 23 = .ok (.istore_n 3, 1) := by decide +kernel
theorem dX11_rate_24 : decode cX11_rate 24 = .ok (.iconst 0, 1) := by decide +kernel
theorem dX11_rate_25 : decode cX11_rate 25 = .ok (.istore 4, 2) := by decide +kernel
theorem dX11_rate_27 : decode cX11_rate 27 = .ok (.iconst 0, 1) := by decide +kernel
theorem dX11_rate_28 : decode cX11_rate 28 = .ok (.istore 5, 2) := by decide +kernel
theorem dX11_rate_30 : decode cX11_rate 30 = .ok (.iconst 2, 1) := by decide +kernel
theorem dX11_rate_31 : decode cX11_rate 31 = .ok (.istore 6, 2) := by decide +kernel
theorem dX11_rate_33 : decode cX11_rate 33 = .ok (.iload 6, 2) := by decide +kernel
theorem dX11_rate_35 : decode cX11_rate 35 = .ok (.bipush 50, 2) := by decide +kernel
theorem dX11_rate_37 : decode cX11_rate 37 = .ok (.if_icmp .gt 102, 3) := by decide +kernel
theorem dX11_rate_40 : decode cX11_rate 40 = .ok (.aload_n 0, 1) := by decide +kernel
theorem dX11_rate_41 : decode cX11_rate 41 = .ok (.iload_n 1, 1) := by decide +kernel
theorem dX11_rate_42 : decode cX11_rate 42 = .ok (.iload 6, 2) := by decide +kernel
theorem dX11_rate_44 : decode cX11_rate 44 = .ok (.bipush (-4), 2) := by decide +kernel
theorem dX11_rate_46 : decode cX11_rate 46 = .ok (.invokevirtual 273, 3) := by decide +kernel
theorem dX11_rate_49 : decode cX11_rate 49 = .ok (.iload_n 3, 1) := by decide +kernel
theorem dX11_rate_50 : decode cX11_rate 50 = .ok (.bipush (-4), 2) := by decide +kernel
theorem dX11_rate_52 : decode cX11_rate 52 = .ok (.if_icmp .eq 30, 3) := by decide +kernel
theorem dX11_rate_55 : decode cX11_rate 55 = .ok (.aload_n 0, 1) := by decide +kernel
theorem dX11_rate_56 : decode cX11_rate 56 = .ok (.getfield 259, 3) := by decide +kernel
theorem dX11_rate_59 : decode cX11_rate 59 = .ok (.iload 4, 2) := by decide +kernel
theorem dX11_rate_61 : decode cX11_rate 61 = .ok (.if_icmp .gt 21, 3) := by decide +kernel
theorem dX11_rate_64 : decode cX11_rate 64 = .ok (.aload_n 0, 1) := by decide +kernel
theorem dX11_rate_65 : decode cX11_rate 65 = .ok (.getfield 259, 3) := by decide +kernel
theorem dX11_rate_68 : decode cX11_rate 68 = .ok (.iload 4, 2) := by decide +kernel
theorem dX11_rate_70 : decode cX11_rate 70 = .ok (.if_icmp .ne 16, 3) := by decide +kernel
theorem dX11_rate_73 : decode cX11_rate 73 = .ok (.aload_n 0, 1) := by decide +kernel
theorem dX11_rate_74 : decode cX11_rate 74 = .ok (.getfield 262, 3) := by decide +kernel
theorem dX11_rate_77 : decode cX11_rate 77 = .ok (.iload 5, 2) := by decide +kernel
theorem dX11_rate_79 : decode cX11_rate 79 = .ok (.if_icmp .ge 7, 3) := by decide +kernel
theorem dX11_rate_82 : decode cX11_rate 82 = .ok (.iconst 1, 1) := by decide +kernel
theorem dX11_rate_83 : decode cX11_rate 83 = .ok (.goto 4, 3) := by decide +kernel
theorem dX11_rate_86 : decode cX11_rate 86 = .ok (.iconst 0, 1) := by decide +kernel
theorem dX11_rate_87 : decode cX11_rate 87 = .ok (.istore 7, 2) := by decide +kernel
theorem dX11_rate_89 : decode cX11_rate 89 = .ok (.iload 7, 2) := by decide +kernel
theorem dX11_rate_91 : decode cX11_rate 91 = .ok (.ifCond .eq 8, 3) := by decide +kernel
theorem dX11_rate_94 : decode cX11_rate 94 = .ok (.iload 6, 2) := by decide +kernel
theorem dX11_rate_96 : decode cX11_rate 96 = .ok (.goto 4, 3) := by decide +kernel
theorem dX11_rate_99 : decode cX11_rate 99 = .ok (.iload_n 3, 1) := by decide +kernel
theorem dX11_rate_100 : decode cX11_rate 100 = .ok (.istore_n 3, 1) := by decide +kernel
theorem dX11_rate_101 : decode cX11_rate 101 = .ok (.iload 7, 2) := by decide +kernel
theorem dX11_rate_103 : decode cX11_rate 103 = .ok (.ifCond .eq 10, 3) := by decide +kernel
theorem dX11_rate_106 : decode cX11_rate 106 = .ok (.aload_n 0, 1) := by decide +kernel
theorem dX11_rate_107 : decode cX11_rate 107 = .ok (.getfield 259, 3) := by decide +kernel
theorem dX11_rate_110 : decode cX11_rate 110 = .ok (.goto 5, 3) := by decide +kernel
theorem dX11_rate_113 : decode cX11_rate 113 = .ok (.iload 4, 2) := by decide +kernel
theorem dX11_rate_115 : decode cX11_rate 115 = .ok (.istore 4, 2) := by decide +kernel
theorem dX11_rate_117 : decode cX11_rate 117 = .ok (.iload 7, 2) := by decide +kernel
theorem dX11_rate_119 : decode cX11_rate 119 = .ok (.ifCond .eq 10, 3) := by decide +kernel
theorem dX11_rate_122 : decode cX11_rate 122 = .ok (.aload_n 0, 1) := by decide +kernel
theorem dX11_rate_123 : decode cX11_rate 123 = .ok (.getfield 262, 3) := by decide +kernel
theorem dX11_rate_126 : decode cX11_rate 126 = .ok (.goto 5, 3) := by decide +kernel
theorem dX11_rate_129 : decode cX11_rate 129 = .ok (.iload 5, 2) := by decide +kernel
theorem dX11_rate_131 : decode cX11_rate 131 = .ok (.istore 5, 2) := by decide +kernel
theorem dX11_rate_133 : decode cX11_rate 133 = .ok (.iinc 6 1, 3) := by decide +kernel
theorem dX11_rate_136 : decode cX11_rate 136 = .ok (.goto (-103), 3) := by decide +kernel
theorem dX11_rate_139 : decode cX11_rate 139 = .ok (.iload_n 2, 1) := by decide +kernel
theorem dX11_rate_140 : decode cX11_rate 140 = .ok (.ifCond .ne 7, 3) := by decide +kernel
theorem dX11_rate_143 : decode cX11_rate 143 = .ok (.iload_n 3, 1) := by decide +kernel
theorem dX11_rate_144 : decode cX11_rate 144 = .ok (.goto 15, 3) := by decide +kernel
theorem dX11_rate_147 : decode cX11_rate 147 = .ok (.iload_n 2, 1) := by decide +kernel
theorem dX11_rate_148 : decode cX11_rate 148 = .ok (.iconst 1, 1) := by decide +kernel
theorem dX11_rate_149 : decode cX11_rate 149 = .ok (.if_icmp .ne 8, 3) := by decide +kernel
theorem dX11_rate_152 : decode cX11_rate 152 = .ok (.iload 4, 2) := by decide +kernel
theorem dX11_rate_154 : decode cX11_rate 154 = .ok (.goto 5, 3) := by decide +kernel
theorem dX11_rate_157 : decode cX11_rate 157 = .ok (.iload 5, 2) := by decide +kernel
theorem dX11_rate_159 : decode cX11_rate 159 = .ok (.ireturn, 1) := by decide +kernel
theorem dX11_unlikeBits_0 : decode cX11_unlikeBits 0 = .ok (.iconst 0, 1) := by decide +kernel
theorem dX11_unlikeBits_1 : decode cX11_unlikeBits 1 = .ok (.istore_n 3, 1) := by decide +kernel
theorem dX11_unlikeBits_2 : decode cX11_unlikeBits 2 = .ok (.iconst 0, 1) := by decide +kernel
theorem dX11_unlikeBits_3 : decode cX11_unlikeBits 3 = .ok (.istore 4, 2) := by decide +kernel
theorem dX11_unlikeBits_5 : decode cX11_unlikeBits 5 = .ok (.iload 4, 2) := by decide +kernel
theorem dX11_unlikeBits_7 : decode cX11_unlikeBits 7 = .ok (.bipush 8, 2) := by decide +kernel
theorem dX11_unlikeBits_9 : decode cX11_unlikeBits 9 = .ok (.if_icmp .ge 37, 3) := by decide +kernel
theorem dX11_unlikeBits_12 : decode cX11_unlikeBits 12 = .ok (.iload_n 3, 1) := by decide +kernel
theorem dX11_unlikeBits_13 : decode cX11_unlikeBits 13 = .ok (.aload_n 0, 1) := by decide +kernel
theorem dX11_unlikeBits_14 : decode cX11_unlikeBits 14 = .ok (.iload 4, 2) := by decide +kernel
theorem dX11_unlikeBits_16 : decode cX11_unlikeBits 16 = .ok (.iload_n 1, 1) := by decide +kernel
theorem dX11_unlikeBits_17 : decode cX11_unlikeBits 17 = .ok (.invokevirtual 155, 3) := by decide +kernel
theorem dX11_unlikeBits_20 : decode cX11_unlikeBits 20 = .ok (.aload_n 0, 1) := by decide +kernel
theorem dX11_unlikeBits_21 : decode cX11_unlikeBits 21 = .ok (.iload 4, 2) := by decide +kernel
theorem dX11_unlikeBits_23 : decode cX11_unlikeBits 23 = .ok (.iload_n 2, 1) := by decide +kernel
theorem dX11_unlikeBits_24 : decode cX11_unlikeBits 24 = .ok (.invokevirtual 155, 3) := by decide +kernel
theorem dX11_unlikeBits_27 : decode cX11_unlikeBits 27 = .ok (.if_icmp .eq 7, 3) := by decide +kernel
theorem dX11_unlikeBits_30 : decode cX11_unlikeBits 30 = .ok (.iconst 1, 1) := by decide +kernel
theorem dX11_unlikeBits_31 : decode cX11_unlikeBits 31 = .ok (.goto 4, 3) := by decide +kernel
theorem dX11_unlikeBits_34 : decode cX11_unlikeBits 34 = .ok (.iconst 0, 1) := by decide +kernel
theorem dX11_unlikeBits_35 : decode cX11_unlikeBits 35 = .ok (.invokestatic 213, 3) := by decide +kernel
theorem dX11_unlikeBits_38 : decode cX11_unlikeBits 38 = .ok (.iadd, 1) := by decide +kernel
theorem dX11_unlikeBits_39 : decode cX11_unlikeBits 39 = .ok (.istore_n 3, 1) := by decide +kernel
theorem dX11_unlikeBits_40 : decode cX11_unlikeBits 40 = .ok (.iinc 4 1, 3) := by decide +kernel
theorem dX11_unlikeBits_43 : decode cX11_unlikeBits 43 = .ok (.goto (-38), 3) := by decide +kernel
theorem dX11_unlikeBits_46 : decode cX11_unlikeBits 46 = .ok (.iload_n 3, 1) := by decide +kernel
theorem dX11_unlikeBits_47 : decode cX11_unlikeBits 47 = .ok (.ireturn, 1) := by decide +kernel
theorem dX11_edgesBy_0 : decode cX11_edgesBy 0 = .ok (.iconst 0, 1) := by decide +kernel
theorem dX11_edgesBy_1 : decode cX11_edgesBy 1 = .ok (.istore_n 3, 1) := by decide +kernel
theorem dX11_edgesBy_2 : decode cX11_edgesBy 2 = .ok (.iload_n 2, 1) := by decide +kernel
theorem dX11_edgesBy_3 : decode cX11_edgesBy 3 = .ok (.istore 4, 2) := by decide +kernel
theorem dX11_edgesBy_5 : decode cX11_edgesBy 5 = .ok (.iload 4, 2) := by decide +kernel
theorem dX11_edgesBy_7 : decode cX11_edgesBy 7 = .ok (.iload_n 1, 1) := by decide +kernel
theorem dX11_edgesBy_8 : decode cX11_edgesBy 8 = .ok (.iadd, 1) := by decide +kernel
theorem dX11_edgesBy_9 : decode cX11_edgesBy 9 = .ok (.aload_n 0, 1) := by decide +kernel
theorem dX11_edgesBy_10 : decode cX11_edgesBy 10 = .ok (.getfield 144, 3) := by decide +kernel
theorem dX11_edgesBy_13 : decode cX11_edgesBy 13 = .ok (.if_icmp .ge 25, 3) := by decide +kernel
theorem dX11_edgesBy_16 : decode cX11_edgesBy 16 = .ok (.iload_n 3, 1) := by decide +kernel
theorem dX11_edgesBy_17 : decode cX11_edgesBy 17 = .ok (.aload_n 0, 1) := by decide +kernel
theorem dX11_edgesBy_18 : decode cX11_edgesBy 18 = .ok (.iload 4, 2) := by decide +kernel
theorem dX11_edgesBy_20 : decode cX11_edgesBy 20 = .ok (.iload 4, 2) := by decide +kernel
theorem dX11_edgesBy_22 : decode cX11_edgesBy 22 = .ok (.iload_n 1, 1) := by decide +kernel
theorem dX11_edgesBy_23 : decode cX11_edgesBy 23 = .ok (.iadd, 1) := by decide +kernel
theorem dX11_edgesBy_24 : decode cX11_edgesBy 24 = .ok (.invokevirtual 277, 3) := by decide +kernel
theorem dX11_edgesBy_27 : decode cX11_edgesBy 27 = .ok (.iadd, 1) := by decide +kernel
theorem dX11_edgesBy_28 : decode cX11_edgesBy 28 = .ok (.istore_n 3, 1) := by decide +kernel
theorem dX11_edgesBy_29 : decode cX11_edgesBy 29 = .ok (.iload 4, 2) := by decide +kernel
theorem dX11_edgesBy_31 : decode cX11_edgesBy 31 = .ok (.iload_n 1, 1) := by decide +kernel
theorem dX11_edgesBy_32 : decode cX11_edgesBy 32 = .ok (.iadd, 1) := by decide +kernel
theorem dX11_edgesBy_33 : decode cX11_edgesBy 33 = .ok (.istore 4, 2) := by decide +kernel
theorem dX11_edgesBy_35 : decode cX11_edgesBy 35 = .ok (.goto (-30), 3) := by decide +kernel
theorem dX11_edgesBy_38 : decode cX11_edgesBy 38 = .ok (.iload_n 3, 1) := by decide +kernel
theorem dX11_edgesBy_39 : decode cX11_edgesBy 39 = .ok (.ireturn, 1) := by decide +kernel
theorem dX11_seen_0 : decode cX11_seen 0 = .ok (.iload_n 1, 1) := by decide +kernel
theorem dX11_seen_1 : decode cX11_seen 1 = .ok (.i2l, 1) := by decide +kernel
theorem dX11_seen_2 : decode cX11_seen 2 = .ok (.lconst 1, 1) := by decide +kernel
theorem dX11_seen_3 : decode cX11_seen 3 = .ok (.ldc2_w 147, 3) := by decide +kernel
theorem dX11_seen_6 : decode cX11_seen 6 = .ok (.invokestatic 58, 3) := by decide +kernel
theorem dX11_seen_9 : decode cX11_seen 9 = .ok (.ifCond .eq 28, 3) := by decide +kernel
theorem dX11_seen_12 : decode cX11_seen 12 = .ok (.iload_n 2, 1) := by decide +kernel
theorem dX11_seen_13 : decode cX11_seen 13 = .ok (.i2l, 1) := by decide +kernel
theorem dX11_seen_14 : decode cX11_seen 14 = .ok (.lconst 0, 1) := by decide +kernel
theorem dX11_seen_15 : decode cX11_seen 15 = .ok (.iload_n 1, 1) := by decide +kernel
theorem dX11_seen_16 : decode cX11_seen 16 = .ok (.iconst 1, 1) := by decide +kernel
theorem dX11_seen_17 : decode cX11_seen 17 = .ok (.isub, 1) := by decide +kernel
theorem dX11_seen_18 : decode cX11_seen 18 = .ok (.i2l, 1) := by decide +kernel
theorem dX11_seen_19 : decode cX11_seen 19 = .ok (.invokestatic 58, 3) := by decide +kernel
theorem dX11_seen_22 : decode cX11_seen 22 = .ok (.ifCond .eq 15, 3) := by decide +kernel
theorem dX11_seen_25 : decode cX11_seen 25 = .ok (.iload_n 3, 1) := by decide +kernel
theorem dX11_seen_26 : decode cX11_seen 26 = .ok (.i2l, 1) := by decide +kernel
theorem dX11_seen_27 : decode cX11_seen 27 = .ok (.lconst 0, 1) := by decide +kernel
theorem dX11_seen_28 : decode cX11_seen 28 = .ok (.ldc2_w 138, 3) := by decide +kernel
theorem dX11_seen_31 : decode cX11_seen 31 = .ok (.invokestatic 58, 3) := by decide +kernel
theorem dX11_seen_34 : decode cX11_seen 34 = .ok (.ifCond .ne 5, 3) := by decide +kernel
theorem dX11_seen_37 : decode cX11_seen 37 = .ok (.iconst (-1), 1) := by decide +kernel
theorem dX11_seen_38 : decode cX11_seen 38 = .ok (.ireturn, 1) := by decide +kernel
theorem dX11_seen_39 : decode cX11_seen 39 = .ok (.iconst 0, 1) := by decide +kernel
theorem dX11_seen_40 : decode cX11_seen 40 = .ok (.istore 4, 2) := by decide +kernel
theorem dX11_seen_42 : decode cX11_seen 42 = .ok (.iload_n 2, 1) := by decide +kernel
theorem dX11_seen_43 : decode cX11_seen 43 = .ok (.istore 5, 2) := by decide +kernel
theorem dX11_seen_45 : decode cX11_seen 45 = .ok (.iload 5, 2) := by decide +kernel
theorem dX11_seen_47 : decode cX11_seen 47 = .ok (.aload_n 0, 1) := by decide +kernel
theorem dX11_seen_48 : decode cX11_seen 48 = .ok (.getfield 144, 3) := by decide +kernel
theorem dX11_seen_51 : decode cX11_seen 51 = .ok (.if_icmp .ge 15, 3) := by decide +kernel
theorem dX11_seen_54 : decode cX11_seen 54 = .ok (.iinc 4 1, 3) := by decide +kernel
theorem dX11_seen_57 : decode cX11_seen 57 = .ok (.iload 5, 2) := by decide +kernel
theorem dX11_seen_59 : decode cX11_seen 59 = .ok (.iload_n 1, 1) := by decide +kernel
theorem dX11_seen_60 : decode cX11_seen 60 = .ok (.iadd, 1) := by decide +kernel
theorem dX11_seen_61 : decode cX11_seen 61 = .ok (.istore 5, 2) := by decide +kernel
theorem dX11_seen_63 : decode cX11_seen 63 = .ok (.goto (-18), 3) := by decide +kernel
theorem dX11_seen_66 : decode cX11_seen 66 = .ok (.aload_n 0, 1) := by decide +kernel
theorem dX11_seen_67 : decode cX11_seen 67 = .ok (.iload_n 1, 1) := by decide +kernel
theorem dX11_seen_68 : decode cX11_seen 68 = .ok (.iload_n 2, 1) := by decide +kernel
theorem dX11_seen_69 : decode cX11_seen 69 = .ok (.invokevirtual 280, 3) := by decide +kernel
theorem dX11_seen_72 : decode cX11_seen 72 = .ok (.istore 5, 2) := by decide +kernel
theorem dX11_seen_74 : decode cX11_seen 74 = .ok (.iload_n 3, 1) := by decide +kernel
theorem dX11_seen_75 : decode cX11_seen 75 = .ok (.ifCond .ne 8, 3) := by decide +kernel
theorem dX11_seen_78 : decode cX11_seen 78 = .ok (.iload 4, 2) := by decide +kernel
theorem dX11_seen_80 : decode cX11_seen 80 = .ok (.goto 22, 3) := by decide +kernel
theorem dX11_seen_83 : decode cX11_seen 83 = .ok (.iload_n 3, 1) := by decide +kernel
theorem dX11_seen_84 : decode cX11_seen 84 = .ok (.iconst 1, 1) := by decide +kernel
theorem dX11_seen_85 : decode cX11_seen 85 = .ok (.if_icmp .ne 8, 3) := by decide +kernel
theorem dX11_seen_88 : decode cX11_seen 88 = .ok (.iload 5, 2) := by decide +kernel
theorem dX11_seen_90 : decode cX11_seen 90 = .ok (.goto 12, 3) := by decide +kernel
theorem dX11_seen_93 : decode cX11_seen 93 = .ok (.aload_n 0, 1) := by decide +kernel
theorem dX11_seen_94 : decode cX11_seen 94 = .ok (.iconst 1, 1) := by decide +kernel
theorem dX11_seen_95 : decode cX11_seen 95 = .ok (.iconst 0, 1) := by decide +kernel
theorem dX11_seen_96 : decode cX11_seen 96 = .ok (.invokevirtual 280, 3) := by decide +kernel
theorem dX11_seen_99 : decode cX11_seen 99 = .ok (.iload 5, 2) := by decide +kernel
theorem dX11_seen_101 : decode cX11_seen 101 = .ok (.isub, 1) := by decide +kernel
theorem dX11_seen_102 : decode cX11_seen 102 = .ok (.ireturn, 1) := by decide +kernel
theorem dX11_widest_0 : decode cX11_widest 0 = .ok (.aload_n 0, 1) := by decide +kernel
theorem dX11_widest_1 : decode cX11_widest 1 = .ok (.invokevirtual 237, 3) := by decide +kernel
theorem dX11_widest_4 : decode cX11_widest 4 = .ok (.iconst 0, 1) := by decide +kernel
theorem dX11_widest_5 : decode cX11_widest 5 = .ok (.istore_n 1, 1) := by decide +kernel
theorem dX11_widest_6 : decode cX11_widest 6 = .ok (.iload_n 1, 1) := by decide +kernel
theorem dX11_widest_7 : decode cX11_widest 7 = .ok (.bipush 8, 2) := by decide +kernel
theorem dX11_widest_9 : decode cX11_widest 9 = .ok (.if_icmp .ge 15, 3) := by decide +kernel
theorem dX11_widest_12 : decode cX11_widest 12 = .ok (.aload_n 0, 1) := by decide +kernel
theorem dX11_widest_13 : decode cX11_widest 13 = .ok (.iload_n 1, 1) := by decide +kernel
theorem dX11_widest_14 : decode cX11_widest 14 = .ok (.iconst 3, 1) := by decide +kernel
theorem dX11_widest_15 : decode cX11_widest 15 = .ok (.invokevirtual 240, 3) := by decide +kernel
theorem dX11_widest_18 : decode cX11_widest 18 = .ok (.iinc 1 1, 3) := by decide +kernel
theorem dX11_widest_21 : decode cX11_widest 21 = .ok (.goto (-15), 3) := by decide +kernel
theorem dX11_widest_24 : decode cX11_widest 24 = .ok (.aload_n 0, 1) := by decide +kernel
theorem dX11_widest_25 : decode cX11_widest 25 = .ok (.getfield 220, 3) := by decide +kernel
theorem dX11_widest_28 : decode cX11_widest 28 = .ok (.bipush (-4), 2) := by decide +kernel
theorem dX11_widest_30 : decode cX11_widest 30 = .ok (.if_icmp .ne 9, 3) := by decide +kernel
theorem dX11_widest_33 : decode cX11_widest 33 = .ok (.sipush 400, 3) := by decide +kernel
theorem dX11_widest_36 : decode cX11_widest 36 = .ok (.goto 7, 3) := by decide +kernel
theorem dX11_widest_39 : decode cX11_widest 39 = .ok (.aload_n 0, 1) := by decide +kernel
theorem dX11_widest_40 : decode cX11_widest 40 = .ok (.getfield 220, 3) := by decide +kernel
theorem dX11_widest_43 : decode cX11_widest 43 = .ok (.ireturn, 1) := by decide +kernel
theorem dX11_begins_0 : decode cX11_begins 0 = .ok (.iload_n 1, 1) := by decide +kernel
theorem dX11_begins_1 : decode cX11_begins 1 = .ok (.ifCond .eq 20, 3) := by decide +kernel
theorem dX11_begins_4 : decode cX11_begins 4 = .ok (.aload_n 0, 1) := by decide +kernel
theorem dX11_begins_5 : decode cX11_begins 5 = .ok (.getfield 16, 3) := by decide +kernel
theorem dX11_begins_8 : decode cX11_begins 8 = .ok (.iload_n 1, 1) := by decide +kernel
theorem dX11_begins_9 : decode cX11_begins 9 = .ok (.iaload, 1) := by decide +kernel
theorem dX11_begins_10 : decode cX11_begins 10 = .ok (.aload_n 0, 1) := by decide +kernel
theorem dX11_begins_11 : decode cX11_begins 11 = .ok (.getfield 16, 3) := by decide +kernel
theorem dX11_begins_14 : decode cX11_begins 14 = .ok (.iload_n 1, 1) := by decide +kernel
theorem dX11_begins_15 : decode cX11_begins 15 = .ok (.iconst 1, 1) := by decide +kernel
theorem dX11_begins_16 : decode cX11_begins 16 = .ok (.isub, 1) := by decide +kernel
theorem dX11_begins_17 : decode cX11_begins 17 = .ok (.iaload, 1) := by decide +kernel
theorem dX11_begins_18 : decode cX11_begins 18 = .ok (.if_icmp .eq 7, 3) := by decide +kernel
theorem dX11_begins_21 : decode cX11_begins 21 = .ok (.iconst 1, 1) := by decide +kernel
theorem dX11_begins_22 : decode cX11_begins 22 = .ok (.goto 4, 3) := by decide +kernel
theorem dX11_begins_25 : decode cX11_begins 25 = .ok (.iconst 0, 1) := by decide +kernel
theorem dX11_begins_26 : decode cX11_begins 26 = .ok (.ireturn, 1) := by decide +kernel
theorem dX11_runs_0 : decode cX11_runs 0 = .ok (.iconst 0, 1) := by decide +kernel
theorem dX11_runs_1 : decode cX11_runs 1 = .ok (.istore_n 1, 1) := by decide +kernel
theorem dX11_runs_2 : decode cX11_runs 2 = .ok (.iconst 0, 1) := by decide +kernel
theorem dX11_runs_3 : decode cX11_runs 3 = .ok (.istore_n 2, 1) := by decide +kernel
theorem dX11_runs_4 : decode cX11_runs 4 = .ok (.iload_n 2, 1) := by decide +kernel
theorem dX11_runs_5 : decode cX11_runs 5 = .ok (.aload_n 0, 1) := by decide +kernel
theorem dX11_runs_6 : decode cX11_runs 6 = .ok (.getfield 144, 3) := by decide +kernel
theorem dX11_runs_9 : decode cX11_runs 9 = .ok (.if_icmp .ge 20, 3) := by decide +kernel
theorem dX11_runs_12 : decode cX11_runs 12 = .ok (.iload_n 1, 1) := by decide +kernel
theorem dX11_runs_13 : decode cX11_runs 13 = .ok (.aload_n 0, 1) := by decide +kernel
theorem dX11_runs_14 : decode cX11_runs 14 = .ok (.iload_n 2, 1) := by decide +kernel
theorem dX11_runs_15 : decode cX11_runs 15 = .ok (.invokevirtual 283, 3) := by decide +kernel
theorem dX11_runs_18 : decode cX11_runs 18 = .ok (.invokestatic 213, 3) := by decide +kernel
theorem dX11_runs_21 : decode cX11_runs 21 = .ok (.iadd, 1) := by decide +kernel
theorem dX11_runs_22 : decode cX11_runs 22 = .ok (.istore_n 1, 1) := by decide +kernel
theorem dX11_runs_23 : decode cX11_runs 23 = .ok (.iinc 2 1, 3) := by decide +kernel
theorem dX11_runs_26 : decode cX11_runs 26 = .ok (.goto (-22), 3) := by decide +kernel
theorem dX11_runs_29 : decode cX11_runs 29 = .ok (.iload_n 1, 1) := by decide +kernel
theorem dX11_runs_30 : decode cX11_runs 30 = .ok (.ireturn, 1) := by decide +kernel
theorem dX11_fills_0 : decode cX11_fills 0 = .ok (.iload_n 1, 1) := by decide +kernel
theorem dX11_fills_1 : decode cX11_fills 1 = .ok (.i2l, 1) := by decide +kernel
theorem dX11_fills_2 : decode cX11_fills 2 = .ok (.lconst 1, 1) := by decide +kernel
theorem dX11_fills_3 : decode cX11_fills 3 = .ok (.ldc2_w 147, 3) := by decide +kernel
theorem dX11_fills_6 : decode cX11_fills 6 = .ok (.invokestatic 58, 3) := by decide +kernel
theorem dX11_fills_9 : decode cX11_fills 9 = .ok (.ifCond .eq 11, 3) := by decide +kernel
theorem dX11_fills_12 : decode cX11_fills 12 = .ok (.aload_n 0, 1) := by decide +kernel
theorem dX11_fills_13 : decode cX11_fills 13 = .ok (.iload_n 2, 1) := by decide +kernel
theorem dX11_fills_14 : decode cX11_fills 14 = .ok (.invokevirtual 152, 3) := by decide +kernel
theorem dX11_fills_17 : decode cX11_fills 17 = .ok (.ifCond .ne 5, 3) := by decide +kernel
theorem dX11_fills_20 : decode cX11_fills 20 = .ok (.iconst (-1), 1) := by decide +kernel
theorem dX11_fills_21 : decode cX11_fills 21 = .ok (.ireturn, 1) := by decide +kernel
theorem dX11_fills_22 : decode cX11_fills 22 = .ok (.iload_n 1, 1) := by decide +kernel
theorem dX11_fills_23 : decode cX11_fills 23 = .ok (.istore_n 3, 1) := by decide +kernel
theorem dX11_fills_24 : decode cX11_fills 24 = .ok (.iload_n 2, 1) := by decide +kernel
theorem dX11_fills_25 : decode cX11_fills 25 = .ok (.istore 4, 2) := by decide +kernel
theorem dX11_fills_27 : decode cX11_fills 27 = .ok (.iload 4, 2) := by decide +kernel
theorem dX11_fills_29 : decode cX11_fills 29 = .ok (.aload_n 0, 1) := by decide +kernel
theorem dX11_fills_30 : decode cX11_fills 30 = .ok (.getfield 144, 3) := by decide +kernel
theorem dX11_fills_33 : decode cX11_fills 33 = .ok (.if_icmp .ge 42, 3) := by decide +kernel
theorem dX11_fills_36 : decode cX11_fills 36 = .ok (.iload_n 3, 1) := by decide +kernel
theorem dX11_fills_37 : decode cX11_fills 37 = .ok (.ifCond .le 38, 3) := by decide +kernel
theorem dX11_fills_40 : decode cX11_fills 40 = .ok (.iinc 4 1, 3) := by decide +kernel
theorem dX11_fills_43 : decode cX11_fills 43 = .ok (.iload_n 3, 1) := by decide +kernel
theorem dX11_fills_44 : decode cX11_fills 44 = .ok (.iload 4, 2) := by decide +kernel
theorem dX11_fills_46 : decode cX11_fills 46 = .ok (.aload_n 0, 1) := by decide +kernel
theorem dX11_fills_47 : decode cX11_fills 47 = .ok (.getfield 144, 3) := by decide +kernel
theorem dX11_fills_50 : decode cX11_fills 50 = .ok (.if_icmp .ge 16, 3) := by decide +kernel
theorem dX11_fills_53 : decode cX11_fills 53 = .ok (.aload_n 0, 1) := by decide +kernel
theorem dX11_fills_54 : decode cX11_fills 54 = .ok (.iload 4, 2) := by decide +kernel
theorem dX11_fills_56 : decode cX11_fills 56 = .ok (.invokevirtual 283, 3) := by decide +kernel
theorem dX11_fills_59 : decode cX11_fills 59 = .ok (.ifCond .eq 7, 3) := by decide +kernel
theorem dX11_fills_62 : decode cX11_fills 62 = .ok (.iconst 1, 1) := by decide +kernel
theorem dX11_fills_63 : decode cX11_fills 63 = .ok (.goto 4, 3) := by decide +kernel
theorem dX11_fills_66 : decode cX11_fills 66 = .ok (.iconst 0, 1) := by decide +kernel
theorem dX11_fills_67 : decode cX11_fills 67 = .ok (.invokestatic 213, 3) := by decide +kernel
theorem dX11_fills_70 : decode cX11_fills 70 = .ok (.isub, 1) := by decide +kernel
theorem dX11_fills_71 : decode cX11_fills 71 = .ok (.istore_n 3, 1) := by decide +kernel
theorem dX11_fills_72 : decode cX11_fills 72 = .ok (.goto (-45), 3) := by decide +kernel
theorem dX11_fills_75 : decode cX11_fills 75 = .ok (.iload 4, 2) := by decide +kernel
theorem dX11_fills_77 : decode cX11_fills 77 = .ok (.iload_n 2, 1) := by decide +kernel
theorem dX11_fills_78 : decode cX11_fills 78 = .ok (.isub, 1) := by decide +kernel
theorem dX11_fills_79 : decode cX11_fills 79 = .ok (.ireturn, 1) := by decide +kernel
theorem dX11_timesOf_0 : decode cX11_timesOf 0 = .ok (.iconst 0, 1) := by decide +kernel
theorem dX11_timesOf_1 : decode cX11_timesOf 1 = .ok (.istore_n 2, 1) := by decide +kernel
theorem dX11_timesOf_2 : decode cX11_timesOf 2 = .ok (.iconst 0, 1) := by decide +kernel
theorem dX11_timesOf_3 : decode cX11_timesOf 3 = .ok (.istore_n 3, 1) := by decide +kernel
theorem dX11_timesOf_4 : decode cX11_timesOf 4 = .ok (.iload_n 3, 1) := by decide +kernel
theorem dX11_timesOf_5 : decode cX11_timesOf 5 = .ok (.aload_n 0, 1) := by decide +kernel
theorem dX11_timesOf_6 : decode cX11_timesOf 6 = .ok (.getfield 144, 3) := by decide +kernel
theorem dX11_timesOf_9 : decode cX11_timesOf 9 = .ok (.if_icmp .ge 30, 3) := by decide +kernel
theorem dX11_timesOf_12 : decode cX11_timesOf 12 = .ok (.iload_n 2, 1) := by decide +kernel
theorem dX11_timesOf_13 : decode cX11_timesOf 13 = .ok (.aload_n 0, 1) := by decide +kernel
theorem dX11_timesOf_14 : decode cX11_timesOf 14 = .ok (.getfield 16, 3) := by decide +kernel
theorem dX11_timesOf_17 : decode cX11_timesOf 17 = .ok (.iload_n 3, 1) := by decide +kernel
theorem dX11_timesOf_18 : decode cX11_timesOf 18 = .ok (.iaload, 1) := by decide +kernel
theorem dX11_timesOf_19 : decode cX11_timesOf 19 = .ok (.iload_n 1, 1) := by decide +kernel
theorem dX11_timesOf_20 : decode cX11_timesOf 20 = .ok (.if_icmp .ne 7, 3) := by decide +kernel
theorem dX11_timesOf_23 : decode cX11_timesOf 23 = .ok (.iconst 1, 1) := by decide +kernel
theorem dX11_timesOf_24 : decode cX11_timesOf 24 = .ok (.goto 4, 3) := by decide +kernel
theorem dX11_timesOf_27 : decode cX11_timesOf 27 = .ok (.iconst 0, 1) := by decide +kernel
theorem dX11_timesOf_28 : decode cX11_timesOf 28 = .ok (.invokestatic 213, 3) := by decide +kernel
theorem dX11_timesOf_31 : decode cX11_timesOf 31 = .ok (.iadd, 1) := by decide +kernel
theorem dX11_timesOf_32 : decode cX11_timesOf 32 = .ok (.istore_n 2, 1) := by decide +kernel
theorem dX11_timesOf_33 : decode cX11_timesOf 33 = .ok (.iinc 3 1, 3) := by decide +kernel
theorem dX11_timesOf_36 : decode cX11_timesOf 36 = .ok (.goto (-32), 3) := by decide +kernel
theorem dX11_timesOf_39 : decode cX11_timesOf 39 = .ok (.iload_n 2, 1) := by decide +kernel
theorem dX11_timesOf_40 : decode cX11_timesOf 40 = .ok (.ireturn, 1) := by decide +kernel
theorem dX11_isFresh_0 : decode cX11_isFresh 0 = .ok (.aload_n 0, 1) := by decide +kernel
theorem dX11_isFresh_1 : decode cX11_isFresh 1 = .ok (.getfield 16, 3) := by decide +kernel
theorem dX11_isFresh_4 : decode cX11_isFresh 4 = .ok (.iload_n 1, 1) := by decide +kernel
theorem dX11_isFresh_5 : decode cX11_isFresh 5 = .ok (.iaload, 1) := by decide +kernel
theorem dX11_isFresh_6 : decode cX11_isFresh 6 = .ok (.aload_n 0, 1) := by decide +kernel
theorem dX11_isFresh_7 : decode cX11_isFresh 7 = .ok (.getfield 16, 3) := by decide +kernel
theorem dX11_isFresh_10 : decode cX11_isFresh 10 = .ok (.iload_n 1, 1) := by decide +kernel
theorem dX11_isFresh_11 : decode cX11_isFresh 11 = .ok (.iconst 1, 1) := by decide +kernel
theorem dX11_isFresh_12 : decode cX11_isFresh 12 = .ok (.iadd, 1) := by decide +kernel
theorem dX11_isFresh_13 : decode cX11_isFresh 13 = .ok (.iaload, 1) := by decide +kernel
theorem dX11_isFresh_14 : decode cX11_isFresh 14 = .ok (.if_icmp .eq 7, 3) := by decide +kernel
theorem dX11_isFresh_17 : decode cX11_isFresh 17 = .ok (.iconst 1, 1) := by decide +kernel
theorem dX11_isFresh_18 : decode cX11_isFresh 18 = .ok (.goto 4, 3) := by decide +kernel
theorem dX11_isFresh_21 : decode cX11_isFresh 21 = .ok (.iconst 0, 1) := by decide +kernel
theorem dX11_isFresh_22 : decode cX11_isFresh 22 = .ok (.istore_n 2, 1) := by decide +kernel
theorem dX11_isFresh_23 : decode cX11_isFresh 23 = .ok (.iconst 0, 1) := by decide +kernel
theorem dX11_isFresh_24 : decode cX11_isFresh 24 = .ok (.istore_n 3, 1) := by decide +kernel
theorem dX11_isFresh_25 : decode cX11_isFresh 25 = .ok (.iload_n 3, 1) := by decide +kernel
theorem dX11_isFresh_26 : decode cX11_isFresh 26 = .ok (.iload_n 1, 1) := by decide +kernel
theorem dX11_isFresh_27 : decode cX11_isFresh 27 = .ok (.if_icmp .ge 53, 3) := by decide +kernel
theorem dX11_isFresh_30 : decode cX11_isFresh 30 = .ok (.iload_n 2, 1) := by decide +kernel
theorem dX11_isFresh_31 : decode cX11_isFresh 31 = .ok (.ifCond .eq 41, 3) := by decide +kernel
theorem dX11_isFresh_34 : decode cX11_isFresh 34 = .ok (.aload_n 0, 1) := by decide +kernel
theorem dX11_isFresh_35 : decode cX11_isFresh 35 = .ok (.getfield 16, 3) := by decide +kernel
theorem dX11_isFresh_38 : decode cX11_isFresh 38 = .ok (.iload_n 3, 1) := by decide +kernel
theorem dX11_isFresh_39 : decode cX11_isFresh 39 = .ok (.iaload, 1) := by decide +kernel
theorem dX11_isFresh_40 : decode cX11_isFresh 40 = .ok (.aload_n 0, 1) := by decide +kernel
theorem dX11_isFresh_41 : decode cX11_isFresh 41 = .ok (.getfield 16, 3) := by decide +kernel
theorem dX11_isFresh_44 : decode cX11_isFresh 44 = .ok (.iload_n 1, 1) := by decide +kernel
theorem dX11_isFresh_45 : decode cX11_isFresh 45 = .ok (.iaload, 1) := by decide +kernel
theorem dX11_isFresh_46 : decode cX11_isFresh 46 = .ok (.if_icmp .ne 22, 3) := by decide +kernel
theorem dX11_isFresh_49 : decode cX11_isFresh 49 = .ok (.aload_n 0, 1) := by decide +kernel
theorem dX11_isFresh_50 : decode cX11_isFresh 50 = .ok (.getfield 16, 3) := by decide +kernel
theorem dX11_isFresh_53 : decode cX11_isFresh 53 = .ok (.iload_n 3, 1) := by decide +kernel
theorem dX11_isFresh_54 : decode cX11_isFresh 54 = .ok (.iconst 1, 1) := by decide +kernel
theorem dX11_isFresh_55 : decode cX11_isFresh 55 = .ok (.iadd, 1) := by decide +kernel
theorem dX11_isFresh_56 : decode cX11_isFresh 56 = .ok (.iaload, 1) := by decide +kernel
theorem dX11_isFresh_57 : decode cX11_isFresh 57 = .ok (.aload_n 0, 1) := by decide +kernel
theorem dX11_isFresh_58 : decode cX11_isFresh 58 = .ok (.getfield 16, 3) := by decide +kernel
theorem dX11_isFresh_61 : decode cX11_isFresh 61 = .ok (.iload_n 1, 1) := by decide +kernel
theorem dX11_isFresh_62 : decode cX11_isFresh 62 = .ok (.iconst 1, 1) := by decide +kernel
theorem dX11_isFresh_63 : decode cX11_isFresh 63 = .ok (.iadd, 1) := by decide +kernel
theorem dX11_isFresh_64 : decode cX11_isFresh 64 = .ok (.iaload, 1) := by decide +kernel
theorem dX11_isFresh_65 : decode cX11_isFresh 65 = .ok (.if_icmp .eq 7, 3) := by decide +kernel
theorem dX11_isFresh_68 : decode cX11_isFresh 68 = .ok (.iconst 1, 1) := by decide +kernel
theorem dX11_isFresh_69 : decode cX11_isFresh 69 = .ok (.goto 4, 3) := by decide +kernel
theorem dX11_isFresh_72 : decode cX11_isFresh 72 = .ok (.iconst 0, 1) := by decide +kernel
theorem dX11_isFresh_73 : decode cX11_isFresh 73 = .ok (.istore_n 2, 1) := by decide +kernel
theorem dX11_isFresh_74 : decode cX11_isFresh 74 = .ok (.iinc 3 1, 3) := by decide +kernel
theorem dX11_isFresh_77 : decode cX11_isFresh 77 = .ok (.goto (-52), 3) := by decide +kernel
theorem dX11_isFresh_80 : decode cX11_isFresh 80 = .ok (.iload_n 2, 1) := by decide +kernel
theorem dX11_isFresh_81 : decode cX11_isFresh 81 = .ok (.ireturn, 1) := by decide +kernel
theorem dX11_values_0 : decode cX11_values 0 = .ok (.iload_n 1, 1) := by decide +kernel
theorem dX11_values_1 : decode cX11_values 1 = .ok (.i2l, 1) := by decide +kernel
theorem dX11_values_2 : decode cX11_values 2 = .ok (.lconst 0, 1) := by decide +kernel
theorem dX11_values_3 : decode cX11_values 3 = .ok (.ldc2_w 191, 3) := by decide +kernel
theorem dX11_values_6 : decode cX11_values 6 = .ok (.invokestatic 58, 3) := by decide +kernel
theorem dX11_values_9 : decode cX11_values 9 = .ok (.ifCond .ne 5, 3) := by decide +kernel
theorem dX11_values_12 : decode cX11_values 12 = .ok (.iconst (-1), 1) := by decide +kernel
theorem dX11_values_13 : decode cX11_values 13 = .ok (.ireturn, 1) := by decide +kernel
theorem dX11_values_14 : decode cX11_values 14 = .ok (.iconst 0, 1) := by decide +kernel
theorem dX11_values_15 : decode cX11_values 15 = .ok (.istore_n 2, 1) := by decide +kernel
theorem dX11_values_16 : decode cX11_values 16 = .ok (.bipush (-4), 2) := by decide +kernel
theorem dX11_values_18 : decode cX11_values 18 = .ok (.istore_n 3, 1) := by decide +kernel
theorem dX11_values_19 : decode cX11_values 19 = .ok (.iconst 0, 1) := by decide +kernel
theorem dX11_values_20 : decode cX11_values 20 = .ok (.istore 4, 2) := by decide +kernel
theorem dX11_values_22 : decode cX11_values 22 = .ok (.iconst 0, 1) := by decide +kernel
theorem dX11_values_23 : decode cX11_values 23 = .ok (.istore 5, 2) := by decide +kernel
theorem dX11_values_25 : decode cX11_values 25 = .ok (.iload 5, 2) := by decide +kernel
theorem dX11_values_27 : decode cX11_values 27 = .ok (.sipush 256, 3) := by decide +kernel
theorem dX11_values_30 : decode cX11_values 30 = .ok (.if_icmp .ge 63, 3) := by decide +kernel
theorem dX11_values_33 : decode cX11_values 33 = .ok (.aload_n 0, 1) := by decide +kernel
theorem dX11_values_34 : decode cX11_values 34 = .ok (.iload 5, 2) := by decide +kernel
theorem dX11_values_36 : decode cX11_values 36 = .ok (.invokevirtual 286, 3) := by decide +kernel
theorem dX11_values_39 : decode cX11_values 39 = .ok (.istore 6, 2) := by decide +kernel
theorem dX11_values_41 : decode cX11_values 41 = .ok (.iload_n 2, 1) := by decide +kernel
theorem dX11_values_42 : decode cX11_values 42 = .ok (.iload 6, 2) := by decide +kernel
theorem dX11_values_44 : decode cX11_values 44 = .ok (.ifCond .le 7, 3) := by decide +kernel
theorem dX11_values_47 : decode cX11_values 47 = .ok (.iconst 1, 1) := by decide +kernel
theorem dX11_values_48 : decode cX11_values 48 = .ok (.goto 4, 3) := by decide +kernel
theorem dX11_values_51 : decode cX11_values 51 = .ok (.iconst 0, 1) := by decide +kernel
theorem dX11_values_52 : decode cX11_values 52 = .ok (.invokestatic 213, 3) := by decide +kernel
theorem dX11_values_55 : decode cX11_values 55 = .ok (.iadd, 1) := by decide +kernel
theorem dX11_values_56 : decode cX11_values 56 = .ok (.istore_n 2, 1) := by decide +kernel
theorem dX11_values_57 : decode cX11_values 57 = .ok (.iload 6, 2) := by decide +kernel
theorem dX11_values_59 : decode cX11_values 59 = .ok (.iload 4, 2) := by decide +kernel
theorem dX11_values_61 : decode cX11_values 61 = .ok (.if_icmp .le 8, 3) := by decide +kernel
theorem dX11_values_64 : decode cX11_values 64 = .ok (.iload 5, 2) := by decide +kernel
theorem dX11_values_66 : decode cX11_values 66 = .ok (.goto 4, 3) := by decide +kernel
theorem dX11_values_69 : decode cX11_values 69 = .ok (.iload_n 3, 1) := by decide +kernel
theorem dX11_values_70 : decode cX11_values 70 = .ok (.istore_n 3, 1) := by decide +kernel
theorem dX11_values_71 : decode cX11_values 71 = .ok (.iload 6, 2) := by decide +kernel
theorem dX11_values_73 : decode cX11_values 73 = .ok (.iload 4, 2) := by decide +kernel
theorem dX11_values_75 : decode cX11_values 75 = .ok (.if_icmp .le 8, 3) := by decide +kernel
theorem dX11_values_78 : decode cX11_values 78 = .ok (.iload 6, 2) := by decide +kernel
theorem dX11_values_80 : decode cX11_values 80 = .ok (.goto 5, 3) := by decide +kernel
theorem dX11_values_83 : decode cX11_values 83 = .ok (.iload 4, 2) := by decide +kernel
theorem dX11_values_85 : decode cX11_values 85 = .ok (.istore 4, 2) := by decide +kernel
theorem dX11_values_87 : decode cX11_values 87 = .ok (.iinc 5 1, 3) := by decide +kernel
theorem dX11_values_90 : decode cX11_values 90 = .ok (.goto (-65), 3) := by decide +kernel
theorem dX11_values_93 : decode cX11_values 93 = .ok (.iconst 0, 1) := by decide +kernel
theorem dX11_values_94 : decode cX11_values 94 = .ok (.istore 5, 2) := by decide +kernel
theorem dX11_values_96 : decode cX11_values 96 = .ok (.iconst 0, 1) := by decide +kernel
theorem dX11_values_97 : decode cX11_values 97 = .ok (.istore 6, 2) := by decide +kernel
theorem dX11_values_99 : decode cX11_values 99 = .ok (.iload 6, 2) := by decide +kernel
theorem dX11_values_101 : decode cX11_values 101 = .ok (.iconst 1, 1) := by decide +kernel
theorem dX11_values_102 : decode cX11_values 102 = .ok (.iadd, 1) := by decide +kernel
theorem dX11_values_103 : decode cX11_values 103 = .ok (.aload_n 0, 1) := by decide +kernel
theorem dX11_values_104 : decode cX11_values 104 = .ok (.getfield 144, 3) := by decide +kernel
theorem dX11_values_107 : decode cX11_values 107 = .ok (.if_icmp .ge 23, 3) := by decide +kernel
theorem dX11_values_110 : decode cX11_values 110 = .ok (.iload 5, 2) := by decide +kernel
theorem dX11_values_112 : decode cX11_values 112 = .ok (.aload_n 0, 1) := by decide +kernel
theorem dX11_values_113 : decode cX11_values 113 = .ok (.iload 6, 2) := by decide +kernel
theorem dX11_values_115 : decode cX11_values 115 = .ok (.invokevirtual 289, 3) := by decide +kernel
theorem dX11_values_118 : decode cX11_values 118 = .ok (.invokestatic 213, 3) := by decide +kernel
theorem dX11_values_121 : decode cX11_values 121 = .ok (.iadd, 1) := by decide +kernel
theorem dX11_values_122 : decode cX11_values 122 = .ok (.istore 5, 2) := by decide +kernel
theorem dX11_values_124 : decode cX11_values 124 = .ok (.iinc 6 1, 3) := by decide +kernel
theorem dX11_values_127 : decode cX11_values 127 = .ok (.goto (-28), 3) := by decide +kernel
theorem dX11_values_130 : decode cX11_values 130 = .ok (.iload_n 1, 1) := by decide +kernel
theorem dX11_values_131 : decode cX11_values 131 = .ok (.ifCond .ne 7, 3) := by decide +kernel
theorem dX11_values_134 : decode cX11_values 134 = .ok (.iload_n 2, 1) := by decide +kernel
theorem dX11_values_135 : decode cX11_values 135 = .ok (.goto 24, 3) := by decide +kernel
theorem dX11_values_138 : decode cX11_values 138 = .ok (.iload_n 1, 1) := by decide +kernel
theorem dX11_values_139 : decode cX11_values 139 = .ok (.iconst 1, 1) := by decide +kernel
theorem dX11_values_140 : decode cX11_values 140 = .ok (.if_icmp .ne 8, 3) := by decide +kernel
theorem dX11_values_143 : decode cX11_values 143 = .ok (.iload 5, 2) := by decide +kernel
theorem dX11_values_145 : decode cX11_values 145 = .ok (.goto 14, 3) := by decide +kernel
theorem dX11_values_148 : decode cX11_values 148 = .ok (.iload_n 1, 1) := by decide +kernel
theorem dX11_values_149 : decode cX11_values 149 = .ok (.iconst 2, 1) := by decide +kernel
theorem dX11_values_150 : decode cX11_values 150 = .ok (.if_icmp .ne 7, 3) := by decide +kernel
theorem dX11_values_153 : decode cX11_values 153 = .ok (.iload_n 3, 1) := by decide +kernel
theorem dX11_values_154 : decode cX11_values 154 = .ok (.goto 5, 3) := by decide +kernel
theorem dX11_values_157 : decode cX11_values 157 = .ok (.iload 4, 2) := by decide +kernel
theorem dX11_values_159 : decode cX11_values 159 = .ok (.ireturn, 1) := by decide +kernel
theorem dX11_keep_0 : decode cX11_keep 0 = .ok (.iload_n 1, 1) := by decide +kernel
theorem dX11_keep_1 : decode cX11_keep 1 = .ok (.i2l, 1) := by decide +kernel
theorem dX11_keep_2 : decode cX11_keep 2 = .ok (.lconst 0, 1) := by decide +kernel
theorem dX11_keep_3 : decode cX11_keep 3 = .ok (.lconst 1, 1) := by decide +kernel
theorem dX11_keep_4 : decode cX11_keep 4 = .ok (.invokestatic 58, 3) := by decide +kernel
theorem dX11_keep_7 : decode cX11_keep 7 = .ok (.ifCond .ne 5, 3) := by decide +kernel
theorem dX11_keep_10 : decode cX11_keep 10 = .ok (.iconst (-1), 1) := by decide +kernel
theorem dX11_keep_11 : decode cX11_keep 11 = .ok (.ireturn, 1) := by decide +kernel
theorem dX11_keep_12 : decode cX11_keep 12 = .ok (.aload_n 0, 1) := by decide +kernel
theorem dX11_keep_13 : decode cX11_keep 13 = .ok (.getfield 22, 3) := by decide +kernel
theorem dX11_keep_16 : decode cX11_keep 16 = .ok (.iload_n 1, 1) := by decide +kernel
theorem dX11_keep_17 : decode cX11_keep 17 = .ok (.iaload, 1) := by decide +kernel
theorem dX11_keep_18 : decode cX11_keep 18 = .ok (.istore_n 2, 1) := by decide +kernel
theorem dX11_keep_19 : decode cX11_keep 19 = .ok (.aload_n 0, 1) := by decide +kernel
theorem dX11_keep_20 : decode cX11_keep 20 = .ok (.getfield 22, 3) := by decide +kernel
theorem dX11_keep_23 : decode cX11_keep 23 = .ok (.iload_n 1, 1) := by decide +kernel
theorem dX11_keep_24 : decode cX11_keep 24 = .ok (.aload_n 0, 1) := by decide +kernel
theorem dX11_keep_25 : decode cX11_keep 25 = .ok (.getfield 144, 3) := by decide +kernel
theorem dX11_keep_28 : decode cX11_keep 28 = .ok (.iastore, 1) := by decide +kernel
theorem dX11_keep_29 : decode cX11_keep 29 = .ok (.iconst 0, 1) := by decide +kernel
theorem dX11_keep_30 : decode cX11_keep 30 = .ok (.istore_n 3, 1) := by decide +kernel
theorem dX11_keep_31 : decode cX11_keep 31 = .ok (.iload_n 3, 1) := by decide +kernel
theorem dX11_keep_32 : decode cX11_keep 32 = .ok (.aload_n 0, 1) := by decide +kernel
theorem dX11_keep_33 : decode cX11_keep 33 = .ok (.getfield 144, 3) := by decide +kernel
theorem dX11_keep_36 : decode cX11_keep 36 = .ok (.if_icmp .ge 27, 3) := by decide +kernel
theorem dX11_keep_39 : decode cX11_keep 39 = .ok (.aload_n 0, 1) := by decide +kernel
theorem dX11_keep_40 : decode cX11_keep 40 = .ok (.getfield 19, 3) := by decide +kernel
theorem dX11_keep_43 : decode cX11_keep 43 = .ok (.sipush 400, 3) := by decide +kernel
theorem dX11_keep_46 : decode cX11_keep 46 = .ok (.iload_n 1, 1) := by decide +kernel
theorem dX11_keep_47 : decode cX11_keep 47 = .ok (.imul, 1) := by decide +kernel
theorem dX11_keep_48 : decode cX11_keep 48 = .ok (.iload_n 3, 1) := by decide +kernel
theorem dX11_keep_49 : decode cX11_keep 49 = .ok (.iadd, 1) := by decide +kernel
theorem dX11_keep_50 : decode cX11_keep 50 = .ok (.aload_n 0, 1) := by decide +kernel
theorem dX11_keep_51 : decode cX11_keep 51 = .ok (.getfield 16, 3) := by decide +kernel
theorem dX11_keep_54 : decode cX11_keep 54 = .ok (.iload_n 3, 1) := by decide +kernel
theorem dX11_keep_55 : decode cX11_keep 55 = .ok (.iaload, 1) := by decide +kernel
theorem dX11_keep_56 : decode cX11_keep 56 = .ok (.iastore, 1) := by decide +kernel
theorem dX11_keep_57 : decode cX11_keep 57 = .ok (.iinc 3 1, 3) := by decide +kernel
theorem dX11_keep_60 : decode cX11_keep 60 = .ok (.goto (-29), 3) := by decide +kernel
theorem dX11_keep_63 : decode cX11_keep 63 = .ok (.iload_n 2, 1) := by decide +kernel
theorem dX11_keep_64 : decode cX11_keep 64 = .ok (.ireturn, 1) := by decide +kernel
theorem dX11_back_0 : decode cX11_back 0 = .ok (.iload_n 1, 1) := by decide +kernel
theorem dX11_back_1 : decode cX11_back 1 = .ok (.i2l, 1) := by decide +kernel
theorem dX11_back_2 : decode cX11_back 2 = .ok (.lconst 0, 1) := by decide +kernel
theorem dX11_back_3 : decode cX11_back 3 = .ok (.lconst 1, 1) := by decide +kernel
theorem dX11_back_4 : decode cX11_back 4 = .ok (.invokestatic 58, 3) := by decide +kernel
theorem dX11_back_7 : decode cX11_back 7 = .ok (.ifCond .ne 5, 3) := by decide +kernel
theorem dX11_back_10 : decode cX11_back 10 = .ok (.iconst (-1), 1) := by decide +kernel
theorem dX11_back_11 : decode cX11_back 11 = .ok (.ireturn, 1) := by decide +kernel
theorem dX11_back_12 : decode cX11_back 12 = .ok (.aload_n 0, 1) := by decide +kernel
theorem dX11_back_13 : decode cX11_back 13 = .ok (.getfield 22, 3) := by decide +kernel
theorem dX11_back_16 : decode cX11_back 16 = .ok (.iload_n 1, 1) := by decide +kernel
theorem dX11_back_17 : decode cX11_back 17 = .ok (.iaload, 1) := by decide +kernel
theorem dX11_back_18 : decode cX11_back 18 = .ok (.bipush (-4), 2) := by decide +kernel
theorem dX11_back_20 : decode cX11_back 20 = .ok (.if_icmp .ne 6, 3) := by decide +kernel
theorem dX11_back_23 : decode cX11_back 23 = .ok (.bipush (-2), 2) := by decide +kernel
theorem dX11_back_25 : decode cX11_back 25 = .ok (.ireturn, 1) := by decide +kernel
theorem dX11_back_26 : decode cX11_back 26 = .ok (.aload_n 0, 1) := by decide +kernel
theorem dX11_back_27 : decode cX11_back 27 = .ok (.aload_n 0, 1) := by decide +kernel
theorem dX11_back_28 : decode cX11_back 28 = .ok (.getfield 22, 3) := by decide +kernel
theorem dX11_back_31 : decode cX11_back 31 = .ok (.iload_n 1, 1) := by decide +kernel
theorem dX11_back_32 : decode cX11_back 32 = .ok (.iaload, 1) := by decide +kernel
theorem dX11_back_33 : decode cX11_back 33 = .ok (.putfield 144, 3) := by decide +kernel
theorem dX11_back_36 : decode cX11_back 36 = .ok (.iconst 0, 1) := by decide +kernel
theorem dX11_back_37 : decode cX11_back 37 = .ok (.istore_n 2, 1) := by decide +kernel
theorem dX11_back_38 : decode cX11_back 38 = .ok (.iload_n 2, 1) := by decide +kernel
theorem dX11_back_39 : decode cX11_back 39 = .ok (.aload_n 0, 1) := by decide +kernel
theorem dX11_back_40 : decode cX11_back 40 = .ok (.getfield 144, 3) := by decide +kernel
theorem dX11_back_43 : decode cX11_back 43 = .ok (.if_icmp .ge 27, 3) := by decide +kernel
theorem dX11_back_46 : decode cX11_back 46 = .ok (.aload_n 0, 1) := by decide +kernel
theorem dX11_back_47 : decode cX11_back 47 = .ok (.getfield 16, 3) := by decide +kernel
theorem dX11_back_50 : decode cX11_back 50 = .ok (.iload_n 2, 1) := by decide +kernel
theorem dX11_back_51 : decode cX11_back 51 = .ok (.aload_n 0, 1) := by decide +kernel
theorem dX11_back_52 : decode cX11_back 52 = .ok (.getfield 19, 3) := by decide +kernel
theorem dX11_back_55 : decode cX11_back 55 = .ok (.sipush 400, 3) := by decide +kernel
theorem dX11_back_58 : decode cX11_back 58 = .ok (.iload_n 1, 1) := by decide +kernel
theorem dX11_back_59 : decode cX11_back 59 = .ok (.imul, 1) := by decide +kernel
theorem dX11_back_60 : decode cX11_back 60 = .ok (.iload_n 2, 1) := by decide +kernel
theorem dX11_back_61 : decode cX11_back 61 = .ok (.iadd, 1) := by decide +kernel
theorem dX11_back_62 : decode cX11_back 62 = .ok (.iaload, 1) := by decide +kernel
theorem dX11_back_63 : decode cX11_back 63 = .ok (.iastore, 1) := by decide +kernel
theorem dX11_back_64 : decode cX11_back 64 = .ok (.iinc 2 1, 3) := by decide +kernel
theorem dX11_back_67 : decode cX11_back 67 = .ok (.goto (-29), 3) := by decide +kernel
theorem dX11_back_70 : decode cX11_back 70 = .ok (.aload_n 0, 1) := by decide +kernel
theorem dX11_back_71 : decode cX11_back 71 = .ok (.getfield 144, 3) := by decide +kernel
theorem dX11_back_74 : decode cX11_back 74 = .ok (.ireturn, 1) := by decide +kernel
theorem dX11_unlikeBy_0 : decode cX11_unlikeBy 0 = .ok (.iconst 0, 1) := by decide +kernel
theorem dX11_unlikeBy_1 : decode cX11_unlikeBy 1 = .ok (.istore_n 3, 1) := by decide +kernel
theorem dX11_unlikeBy_2 : decode cX11_unlikeBy 2 = .ok (.iconst 0, 1) := by decide +kernel
theorem dX11_unlikeBy_3 : decode cX11_unlikeBy 3 = .ok (.istore 4, 2) := by decide +kernel
theorem dX11_unlikeBy_5 : decode cX11_unlikeBy 5 = .ok (.iconst 0, 1) := by decide +kernel
theorem dX11_unlikeBy_6 : decode cX11_unlikeBy 6 = .ok (.istore 5, 2) := by decide +kernel
theorem dX11_unlikeBy_8 : decode cX11_unlikeBy 8 = .ok (.iload 5, 2) := by decide +kernel
theorem dX11_unlikeBy_10 : decode cX11_unlikeBy 10 = .ok (.aload_n 0, 1) := by decide +kernel
theorem dX11_unlikeBy_11 : decode cX11_unlikeBy 11 = .ok (.getfield 144, 3) := by decide +kernel
theorem dX11_unlikeBy_14 : decode cX11_unlikeBy 14 = .ok (.if_icmp .ge 91, 3) := by decide +kernel
theorem dX11_unlikeBy_17 : decode cX11_unlikeBy 17 = .ok (.iload 5, 2) := by decide +kernel
theorem dX11_unlikeBy_19 : decode cX11_unlikeBy 19 = .ok (.iload_n 2, 1) := by decide +kernel
theorem dX11_unlikeBy_20 : decode cX11_unlikeBy 20 = .ok (.iadd, 1) := by decide +kernel
theorem dX11_unlikeBy_21 : decode cX11_unlikeBy 21 = .ok (.istore 6, 2) := by decide +kernel
theorem dX11_unlikeBy_23 : decode cX11_unlikeBy 23 = .ok (.iload 6, 2) := by decide +kernel
theorem dX11_unlikeBy_25 : decode cX11_unlikeBy 25 = .ok (.i2l, 1) := by decide +kernel
theorem dX11_unlikeBy_26 : decode cX11_unlikeBy 26 = .ok (.lconst 0, 1) := by decide +kernel
theorem dX11_unlikeBy_27 : decode cX11_unlikeBy 27 = .ok (.aload_n 0, 1) := by decide +kernel
theorem dX11_unlikeBy_28 : decode cX11_unlikeBy 28 = .ok (.getfield 22, 3) := by decide +kernel
theorem dX11_unlikeBy_31 : decode cX11_unlikeBy 31 = .ok (.iload_n 1, 1) := by decide +kernel
theorem dX11_unlikeBy_32 : decode cX11_unlikeBy 32 = .ok (.iaload, 1) := by decide +kernel
theorem dX11_unlikeBy_33 : decode cX11_unlikeBy 33 = .ok (.iconst 1, 1) := by decide +kernel
theorem dX11_unlikeBy_34 : decode cX11_unlikeBy 34 = .ok (.isub, 1) := by decide +kernel
theorem dX11_unlikeBy_35 : decode cX11_unlikeBy 35 = .ok (.i2l, 1) := by decide +kernel
theorem dX11_unlikeBy_36 : decode cX11_unlikeBy 36 = .ok (.invokestatic 58, 3) := by decide +kernel
theorem dX11_unlikeBy_39 : decode cX11_unlikeBy 39 = .ok (.istore 7, 2) := by decide +kernel
theorem dX11_unlikeBy_41 : decode cX11_unlikeBy 41 = .ok (.iload 4, 2) := by decide +kernel
theorem dX11_unlikeBy_43 : decode cX11_unlikeBy 43 = .ok (.iload 7, 2) := by decide +kernel
theorem dX11_unlikeBy_45 : decode cX11_unlikeBy 45 = .ok (.invokestatic 213, 3) := by decide +kernel
theorem dX11_unlikeBy_48 : decode cX11_unlikeBy 48 = .ok (.iadd, 1) := by decide +kernel
theorem dX11_unlikeBy_49 : decode cX11_unlikeBy 49 = .ok (.istore 4, 2) := by decide +kernel
theorem dX11_unlikeBy_51 : decode cX11_unlikeBy 51 = .ok (.iload_n 3, 1) := by decide +kernel
theorem dX11_unlikeBy_52 : decode cX11_unlikeBy 52 = .ok (.iload 7, 2) := by decide +kernel
theorem dX11_unlikeBy_54 : decode cX11_unlikeBy 54 = .ok (.ifCond .eq 39, 3) := by decide +kernel
theorem dX11_unlikeBy_57 : decode cX11_unlikeBy 57 = .ok (.aload_n 0, 1) := by decide +kernel
theorem dX11_unlikeBy_58 : decode cX11_unlikeBy 58 = .ok (.getfield 16, 3) := by decide +kernel
theorem dX11_unlikeBy_61 : decode cX11_unlikeBy 61 = .ok (.iload 5, 2) := by decide +kernel
theorem dX11_unlikeBy_63 : decode cX11_unlikeBy 63 = .ok (.iaload, 1) := by decide +kernel
theorem dX11_unlikeBy_64 : decode cX11_unlikeBy 64 = .ok (.aload_n 0, 1) := by decide +kernel
theorem dX11_unlikeBy_65 : decode cX11_unlikeBy 65 = .ok (.getfield 19, 3) := by decide +kernel
theorem dX11_unlikeBy_68 : decode cX11_unlikeBy 68 = .ok (.sipush 400, 3) := by decide +kernel
theorem dX11_unlikeBy_71 : decode cX11_unlikeBy 71 = .ok (.iload_n 1, 1) := by decide +kernel
theorem dX11_unlikeBy_72 : decode cX11_unlikeBy 72 = .ok (.imul, 1) := by decide +kernel
theorem dX11_unlikeBy_73 : decode cX11_unlikeBy 73 = .ok (.iload 7, 2) := by decide +kernel
theorem dX11_unlikeBy_75 : decode cX11_unlikeBy 75 = .ok (.ifCond .eq 8, 3) := by decide +kernel
theorem dX11_unlikeBy_78 : decode cX11_unlikeBy 78 = .ok (.iload 6, 2) := by decide +kernel
theorem dX11_unlikeBy_80 : decode cX11_unlikeBy 80 = .ok (.goto 4, 3) := by decide +kernel
theorem dX11_unlikeBy_83 : decode cX11_unlikeBy 83 = .ok (.iconst 0, 1) := by decide +kernel
theorem dX11_unlikeBy_84 : decode cX11_unlikeBy 84 = .ok (.iadd, 1) := by decide +kernel
theorem dX11_unlikeBy_85 : decode cX11_unlikeBy 85 = .ok (.iaload, 1) := by decide +kernel
theorem dX11_unlikeBy_86 : decode cX11_unlikeBy 86 = .ok (.if_icmp .eq 7, 3) := by decide +kernel
theorem dX11_unlikeBy_89 : decode cX11_unlikeBy 89 = .ok (.iconst 1, 1) := by decide +kernel
theorem dX11_unlikeBy_90 : decode cX11_unlikeBy 90 = .ok (.goto 4, 3) := by decide +kernel
theorem dX11_unlikeBy_93 : decode cX11_unlikeBy 93 = .ok (.iconst 0, 1) := by decide +kernel
theorem dX11_unlikeBy_94 : decode cX11_unlikeBy 94 = .ok (.invokestatic 213, 3) := by decide +kernel
theorem dX11_unlikeBy_97 : decode cX11_unlikeBy 97 = .ok (.iadd, 1) := by decide +kernel
theorem dX11_unlikeBy_98 : decode cX11_unlikeBy 98 = .ok (.istore_n 3, 1) := by decide +kernel
theorem dX11_unlikeBy_99 : decode cX11_unlikeBy 99 = .ok (.iinc 5 1, 3) := by decide +kernel
theorem dX11_unlikeBy_102 : decode cX11_unlikeBy 102 = .ok (.goto (-94), 3) := by decide +kernel
theorem dX11_unlikeBy_105 : decode cX11_unlikeBy 105 = .ok (.iload_n 3, 1) := by decide +kernel
theorem dX11_unlikeBy_106 : decode cX11_unlikeBy 106 = .ok (.aload_n 0, 1) := by decide +kernel
theorem dX11_unlikeBy_107 : decode cX11_unlikeBy 107 = .ok (.getfield 144, 3) := by decide +kernel
theorem dX11_unlikeBy_110 : decode cX11_unlikeBy 110 = .ok (.iadd, 1) := by decide +kernel
theorem dX11_unlikeBy_111 : decode cX11_unlikeBy 111 = .ok (.iload 4, 2) := by decide +kernel
theorem dX11_unlikeBy_113 : decode cX11_unlikeBy 113 = .ok (.isub, 1) := by decide +kernel
theorem dX11_unlikeBy_114 : decode cX11_unlikeBy 114 = .ok (.aload_n 0, 1) := by decide +kernel
theorem dX11_unlikeBy_115 : decode cX11_unlikeBy 115 = .ok (.getfield 22, 3) := by decide +kernel
theorem dX11_unlikeBy_118 : decode cX11_unlikeBy 118 = .ok (.iload_n 1, 1) := by decide +kernel
theorem dX11_unlikeBy_119 : decode cX11_unlikeBy 119 = .ok (.iaload, 1) := by decide +kernel
theorem dX11_unlikeBy_120 : decode cX11_unlikeBy 120 = .ok (.iadd, 1) := by decide +kernel
theorem dX11_unlikeBy_121 : decode cX11_unlikeBy 121 = .ok (.iload 4, 2) := by decide +kernel
theorem dX11_unlikeBy_123 : decode cX11_unlikeBy 123 = .ok (.isub, 1) := by decide +kernel
theorem dX11_unlikeBy_124 : decode cX11_unlikeBy 124 = .ok (.ireturn, 1) := by decide +kernel
theorem dX11_unlike_0 : decode cX11_unlike 0 = .ok (.iload_n 1, 1) := by decide +kernel
theorem dX11_unlike_1 : decode cX11_unlike 1 = .ok (.i2l, 1) := by decide +kernel
theorem dX11_unlike_2 : decode cX11_unlike 2 = .ok (.lconst 0, 1) := by decide +kernel
theorem dX11_unlike_3 : decode cX11_unlike 3 = .ok (.lconst 1, 1) := by decide +kernel
theorem dX11_unlike_4 : decode cX11_unlike 4 = .ok (.invokestatic 58, 3) := by decide +kernel
theorem dX11_unlike_7 : decode cX11_unlike 7 = .ok (.ifCond .eq 17, 3) := by decide +kernel
theorem dX11_unlike_10 : decode cX11_unlike 10 = .ok (.iload_n 2, 1) := by decide +kernel
theorem dX11_unlike_11 : decode cX11_unlike 11 = .ok (.i2l, 1) := by decide +kernel
theorem dX11_unlike_12 : decode cX11_unlike 12 = .ok (.ldc2_w 292, 3) := by decide +kernel
theorem dX11_unlike_15 : decode cX11_unlike 15 = .ok (.ldc2_w 147, 3) := by decide +kernel
theorem dX11_unlike_18 : decode cX11_unlike 18 = .ok (.invokestatic 58, 3) := by decide +kernel
theorem dX11_unlike_21 : decode cX11_unlike 21 = .ok (.ifCond .ne 5, 3) := by decide +kernel
theorem dX11_unlike_24 : decode cX11_unlike 24 = .ok (.iconst (-1), 1) := by decide +kernel
theorem dX11_unlike_25 : decode cX11_unlike 25 = .ok (.ireturn, 1) := by decide +kernel
theorem dX11_unlike_26 : decode cX11_unlike 26 = .ok (.aload_n 0, 1) := by decide +kernel
theorem dX11_unlike_27 : decode cX11_unlike 27 = .ok (.getfield 22, 3) := by decide +kernel
theorem dX11_unlike_30 : decode cX11_unlike 30 = .ok (.iload_n 1, 1) := by decide +kernel
theorem dX11_unlike_31 : decode cX11_unlike 31 = .ok (.iaload, 1) := by decide +kernel
theorem dX11_unlike_32 : decode cX11_unlike 32 = .ok (.bipush (-4), 2) := by decide +kernel
theorem dX11_unlike_34 : decode cX11_unlike 34 = .ok (.if_icmp .ne 8, 3) := by decide +kernel
theorem dX11_unlike_37 : decode cX11_unlike 37 = .ok (.bipush (-2), 2) := by decide +kernel
theorem dX11_unlike_39 : decode cX11_unlike 39 = .ok (.goto 9, 3) := by decide +kernel
theorem dX11_unlike_42 : decode cX11_unlike 42 = .ok (.aload_n 0, 1) := by decide +kernel
theorem dX11_unlike_43 : decode cX11_unlike 43 = .ok (.iload_n 1, 1) := by decide +kernel
theorem dX11_unlike_44 : decode cX11_unlike 44 = .ok (.iload_n 2, 1) := by decide +kernel
theorem dX11_unlike_45 : decode cX11_unlike 45 = .ok (.invokevirtual 294, 3) := by decide +kernel
theorem dX11_unlike_48 : decode cX11_unlike 48 = .ok (.ireturn, 1) := by decide +kernel
theorem dX11_shift_0 : decode cX11_shift 0 = .ok (.iload_n 1, 1) := by decide +kernel
theorem dX11_shift_1 : decode cX11_shift 1 = .ok (.i2l, 1) := by decide +kernel
theorem dX11_shift_2 : decode cX11_shift 2 = .ok (.lconst 0, 1) := by decide +kernel
theorem dX11_shift_3 : decode cX11_shift 3 = .ok (.lconst 1, 1) := by decide +kernel
theorem dX11_shift_4 : decode cX11_shift 4 = .ok (.invokestatic 58, 3) := by decide +kernel
theorem dX11_shift_7 : decode cX11_shift 7 = .ok (.ifCond .eq 13, 3) := by decide +kernel
theorem dX11_shift_10 : decode cX11_shift 10 = .ok (.iload_n 2, 1) := by decide +kernel
theorem dX11_shift_11 : decode cX11_shift 11 = .ok (.i2l, 1) := by decide +kernel
theorem dX11_shift_12 : decode cX11_shift 12 = .ok (.lconst 0, 1) := by decide +kernel
theorem dX11_shift_13 : decode cX11_shift 13 = .ok (.lconst 1, 1) := by decide +kernel
theorem dX11_shift_14 : decode cX11_shift 14 = .ok (.invokestatic 58, 3) := by decide +kernel
theorem dX11_shift_17 : decode cX11_shift 17 = .ok (.ifCond .ne 5, 3) := by decide +kernel
theorem dX11_shift_20 : decode cX11_shift 20 = .ok (.iconst (-1), 1) := by decide +kernel
theorem dX11_shift_21 : decode cX11_shift 21 = .ok (.ireturn, 1) := by decide +kernel
theorem dX11_shift_22 : decode cX11_shift 22 = .ok (.aload_n 0, 1) := by decide +kernel
theorem dX11_shift_23 : decode cX11_shift 23 = .ok (.getfield 22, 3) := by decide +kernel
theorem dX11_shift_26 : decode cX11_shift 26 = .ok (.iload_n 1, 1) := by decide +kernel
theorem dX11_shift_27 : decode cX11_shift 27 = .ok (.iaload, 1) := by decide +kernel
theorem dX11_shift_28 : decode cX11_shift 28 = .ok (.bipush (-4), 2) := by decide +kernel
theorem dX11_shift_30 : decode cX11_shift 30 = .ok (.if_icmp .ne 6, 3) := by decide +kernel
theorem dX11_shift_33 : decode cX11_shift 33 = .ok (.bipush (-2), 2) := by decide +kernel
theorem dX11_shift_35 : decode cX11_shift 35 = .ok (.ireturn, 1) := by decide +kernel
theorem dX11_shift_36 : decode cX11_shift 36 = .ok (.iconst 0, 1) := by decide +kernel
theorem dX11_shift_37 : decode cX11_shift 37 = .ok (.istore_n 3, 1) := by decide +kernel
theorem dX11_shift_38 : decode cX11_shift 38 = .ok (.aload_n 0, 1) := by decide +kernel
theorem dX11_shift_39 : decode cX11_shift 39 = .ok (.iload_n 1, 1) := by decide +kernel
theorem dX11_shift_40 : decode cX11_shift 40 = .ok (.iconst 0, 1) := by decide +kernel
theorem dX11_shift_41 : decode cX11_shift 41 = .ok (.invokevirtual 294, 3) := by decide +kernel
theorem dX11_shift_44 : decode cX11_shift 44 = .ok (.istore 4, 2) := by decide +kernel
theorem dX11_shift_46 : decode cX11_shift 46 = .ok (.iconst 1, 1) := by decide +kernel
theorem dX11_shift_47 : decode cX11_shift 47 = .ok (.istore 5, 2) := by decide +kernel
theorem dX11_shift_49 : decode cX11_shift 49 = .ok (.iload 5, 2) := by decide +kernel
theorem dX11_shift_51 : decode cX11_shift 51 = .ok (.bipush 40, 2) := by decide +kernel
theorem dX11_shift_53 : decode cX11_shift 53 = .ok (.if_icmp .gt 75, 3) := by decide +kernel
theorem dX11_shift_56 : decode cX11_shift 56 = .ok (.aload_n 0, 1) := by decide +kernel
theorem dX11_shift_57 : decode cX11_shift 57 = .ok (.iload_n 1, 1) := by decide +kernel
theorem dX11_shift_58 : decode cX11_shift 58 = .ok (.iload 5, 2) := by decide +kernel
theorem dX11_shift_60 : decode cX11_shift 60 = .ok (.ineg, 1) := by decide +kernel
theorem dX11_shift_61 : decode cX11_shift 61 = .ok (.invokevirtual 294, 3) := by decide +kernel
theorem dX11_shift_64 : decode cX11_shift 64 = .ok (.istore 6, 2) := by decide +kernel
theorem dX11_shift_66 : decode cX11_shift 66 = .ok (.iload 6, 2) := by decide +kernel
theorem dX11_shift_68 : decode cX11_shift 68 = .ok (.iload 4, 2) := by decide +kernel
theorem dX11_shift_70 : decode cX11_shift 70 = .ok (.if_icmp .ge 9, 3) := by decide +kernel
theorem dX11_shift_73 : decode cX11_shift 73 = .ok (.iload 5, 2) := by decide +kernel
theorem dX11_shift_75 : decode cX11_shift 75 = .ok (.ineg, 1) := by decide +kernel
theorem dX11_shift_76 : decode cX11_shift 76 = .ok (.goto 4, 3) := by decide +kernel
theorem dX11_shift_79 : decode cX11_shift 79 = .ok (.iload_n 3, 1) := by decide +kernel
theorem dX11_shift_80 : decode cX11_shift 80 = .ok (.istore_n 3, 1) := by decide +kernel
theorem dX11_shift_81 : decode cX11_shift 81 = .ok (.iload 6, 2) := by decide +kernel
theorem dX11_shift_83 : decode cX11_shift 83 = .ok (.iload 4, 2) := by decide +kernel
theorem dX11_shift_85 : decode cX11_shift 85 = .ok (.invokestatic 198, 3) := by decide +kernel
theorem dX11_shift_88 : decode cX11_shift 88 = .ok (.istore 4, 2) := by decide +kernel
theorem dX11_shift_90 : decode cX11_shift 90 = .ok (.aload_n 0, 1) := by decide +kernel
theorem dX11_shift_91 : decode cX11_shift 91 = .ok (.iload_n 1, 1) := by decide +kernel
theorem dX11_shift_92 : decode cX11_shift 92 = .ok (.iload 5, 2) := by decide +kernel
theorem dX11_shift_94 : decode cX11_shift 94 = .ok (.invokevirtual 294, 3) := by decide +kernel
theorem dX11_shift_97 : decode cX11_shift 97 = .ok (.istore 7, 2) := by decide +kernel
theorem dX11_shift_99 : decode cX11_shift 99 = .ok (.iload 7, 2) := by decide +kernel
theorem dX11_shift_101 : decode cX11_shift 101 = .ok (.iload 4, 2) := by decide +kernel
theorem dX11_shift_103 : decode cX11_shift 103 = .ok (.if_icmp .ge 8, 3) := by decide +kernel
theorem dX11_shift_106 : decode cX11_shift 106 = .ok (.iload 5, 2) := by decide +kernel
theorem dX11_shift_108 : decode cX11_shift 108 = .ok (.goto 4, 3) := by decide +kernel
theorem dX11_shift_111 : decode cX11_shift 111 = .ok (.iload_n 3, 1) := by decide +kernel
theorem dX11_shift_112 : decode cX11_shift 112 = .ok (.istore_n 3, 1) := by decide +kernel
theorem dX11_shift_113 : decode cX11_shift 113 = .ok (.iload 7, 2) := by decide +kernel
theorem dX11_shift_115 : decode cX11_shift 115 = .ok (.iload 4, 2) := by decide +kernel
theorem dX11_shift_117 : decode cX11_shift 117 = .ok (.invokestatic 198, 3) := by decide +kernel
theorem dX11_shift_120 : decode cX11_shift 120 = .ok (.istore 4, 2) := by decide +kernel
theorem dX11_shift_122 : decode cX11_shift 122 = .ok (.iinc 5 1, 3) := by decide +kernel
theorem dX11_shift_125 : decode cX11_shift 125 = .ok (.goto (-76), 3) := by decide +kernel
theorem dX11_shift_128 : decode cX11_shift 128 = .ok (.iload_n 2, 1) := by decide +kernel
theorem dX11_shift_129 : decode cX11_shift 129 = .ok (.ifCond .ne 7, 3) := by decide +kernel
theorem dX11_shift_132 : decode cX11_shift 132 = .ok (.iload_n 3, 1) := by decide +kernel
theorem dX11_shift_133 : decode cX11_shift 133 = .ok (.goto 5, 3) := by decide +kernel
theorem dX11_shift_136 : decode cX11_shift 136 = .ok (.iload 4, 2) := by decide +kernel
theorem dX11_shift_138 : decode cX11_shift 138 = .ok (.ireturn, 1) := by decide +kernel
theorem dX11_isSheet_0 : decode cX11_isSheet 0 = .ok (.iload_n 0, 1) := by decide +kernel
theorem dX11_isSheet_1 : decode cX11_isSheet 1 = .ok (.i2l, 1) := by decide +kernel
theorem dX11_isSheet_2 : decode cX11_isSheet 2 = .ok (.lconst 0, 1) := by decide +kernel
theorem dX11_isSheet_3 : decode cX11_isSheet 3 = .ok (.ldc2_w 191, 3) := by decide +kernel
theorem dX11_isSheet_6 : decode cX11_isSheet 6 = .ok (.invokestatic 58, 3) := by decide +kernel
theorem dX11_isSheet_9 : decode cX11_isSheet 9 = .ok (.ifCond .eq 19, 3) := by decide +kernel
theorem dX11_isSheet_12 : decode cX11_isSheet 12 = .ok (.iload_n 1, 1) := by decide +kernel
theorem dX11_isSheet_13 : decode cX11_isSheet 13 = .ok (.i2l, 1) := by decide +kernel
theorem dX11_isSheet_14 : decode cX11_isSheet 14 = .ok (.lconst 0, 1) := by decide +kernel
theorem dX11_isSheet_15 : decode cX11_isSheet 15 = .ok (.ldc2_w 138, 3) := by decide +kernel
theorem dX11_isSheet_18 : decode cX11_isSheet 18 = .ok (.invokestatic 58, 3) := by decide +kernel
theorem dX11_isSheet_21 : decode cX11_isSheet 21 = .ok (.ifCond .eq 7, 3) := by decide +kernel
theorem dX11_isSheet_24 : decode cX11_isSheet 24 = .ok (.iconst 1, 1) := by decide +kernel
theorem dX11_isSheet_25 : decode cX11_isSheet 25 = .ok (.goto 4, 3) := by decide +kernel
theorem dX11_isSheet_28 : decode cX11_isSheet 28 = .ok (.iconst 0, 1) := by decide +kernel
theorem dX11_isSheet_29 : decode cX11_isSheet 29 = .ok (.ireturn, 1) := by decide +kernel
theorem dX11_sheet_0 : decode cX11_sheet 0 = .ok (.iload_n 1, 1) := by decide +kernel
theorem dX11_sheet_1 : decode cX11_sheet 1 = .ok (.iload_n 2, 1) := by decide +kernel
theorem dX11_sheet_2 : decode cX11_sheet 2 = .ok (.invokestatic 297, 3) := by decide +kernel
theorem dX11_sheet_5 : decode cX11_sheet 5 = .ok (.ifCond .eq 9, 3) := by decide +kernel
theorem dX11_sheet_8 : decode cX11_sheet 8 = .ok (.iload_n 3, 1) := by decide +kernel
theorem dX11_sheet_9 : decode cX11_sheet 9 = .ok (.bipush 40, 2) := by decide +kernel
theorem dX11_sheet_11 : decode cX11_sheet 11 = .ok (.if_icmp .le 5, 3) := by decide +kernel
theorem dX11_sheet_14 : decode cX11_sheet 14 = .ok (.iconst (-1), 1) := by decide +kernel
theorem dX11_sheet_15 : decode cX11_sheet 15 = .ok (.ireturn, 1) := by decide +kernel
theorem dX11_sheet_16 : decode cX11_sheet 16 = .ok (.iload_n 3, 1) := by decide +kernel
theorem dX11_sheet_17 : decode cX11_sheet 17 = .ok (.ifCond .ge 6, 3) := by decide +kernel
theorem dX11_sheet_20 : decode cX11_sheet 20 = .ok (.bipush (-14), 2) := by decide +kernel
theorem dX11_sheet_22 : decode cX11_sheet 22 = .ok (.ireturn, 1) := by decide +kernel
theorem dX11_sheet_23 : decode cX11_sheet 23 = .ok (.aload_n 0, 1) := by decide +kernel
theorem dX11_sheet_24 : decode cX11_sheet 24 = .ok (.getfield 34, 3) := by decide +kernel
theorem dX11_sheet_27 : decode cX11_sheet 27 = .ok (.iload_n 1, 1) := by decide +kernel
theorem dX11_sheet_28 : decode cX11_sheet 28 = .ok (.iload_n 2, 1) := by decide +kernel
theorem dX11_sheet_29 : decode cX11_sheet 29 = .ok (.iastore, 1) := by decide +kernel
theorem dX11_sheet_30 : decode cX11_sheet 30 = .ok (.aload_n 0, 1) := by decide +kernel
theorem dX11_sheet_31 : decode cX11_sheet 31 = .ok (.getfield 37, 3) := by decide +kernel
theorem dX11_sheet_34 : decode cX11_sheet 34 = .ok (.iload_n 1, 1) := by decide +kernel
theorem dX11_sheet_35 : decode cX11_sheet 35 = .ok (.iload_n 3, 1) := by decide +kernel
theorem dX11_sheet_36 : decode cX11_sheet 36 = .ok (.iastore, 1) := by decide +kernel
theorem dX11_sheet_37 : decode cX11_sheet 37 = .ok (.iconst 0, 1) := by decide +kernel
theorem dX11_sheet_38 : decode cX11_sheet 38 = .ok (.istore 4, 2) := by decide +kernel
theorem dX11_sheet_40 : decode cX11_sheet 40 = .ok (.iload 4, 2) := by decide +kernel
theorem dX11_sheet_42 : decode cX11_sheet 42 = .ok (.bipush 40, 2) := by decide +kernel
theorem dX11_sheet_44 : decode cX11_sheet 44 = .ok (.if_icmp .ge 22, 3) := by decide +kernel
theorem dX11_sheet_47 : decode cX11_sheet 47 = .ok (.aload_n 0, 1) := by decide +kernel
theorem dX11_sheet_48 : decode cX11_sheet 48 = .ok (.getfield 40, 3) := by decide +kernel
theorem dX11_sheet_51 : decode cX11_sheet 51 = .ok (.bipush 40, 2) := by decide +kernel
theorem dX11_sheet_53 : decode cX11_sheet 53 = .ok (.iload_n 1, 1) := by decide +kernel
theorem dX11_sheet_54 : decode cX11_sheet 54 = .ok (.imul, 1) := by decide +kernel
theorem dX11_sheet_55 : decode cX11_sheet 55 = .ok (.iload 4, 2) := by decide +kernel
theorem dX11_sheet_57 : decode cX11_sheet 57 = .ok (.iadd, 1) := by decide +kernel
theorem dX11_sheet_58 : decode cX11_sheet 58 = .ok (.iconst 0, 1) := by decide +kernel
theorem dX11_sheet_59 : decode cX11_sheet 59 = .ok (.iastore, 1) := by decide +kernel
theorem dX11_sheet_60 : decode cX11_sheet 60 = .ok (.iinc 4 1, 3) := by decide +kernel
theorem dX11_sheet_63 : decode cX11_sheet 63 = .ok (.goto (-23), 3) := by decide +kernel
theorem dX11_sheet_66 : decode cX11_sheet 66 = .ok (.iconst 1, 1) := by decide +kernel
theorem dX11_sheet_67 : decode cX11_sheet 67 = .ok (.ireturn, 1) := by decide +kernel
theorem dX11_lay_0 : decode cX11_lay 0 = .ok (.iload_n 1, 1) := by decide +kernel
theorem dX11_lay_1 : decode cX11_lay 1 = .ok (.iconst 0, 1) := by decide +kernel
theorem dX11_lay_2 : decode cX11_lay 2 = .ok (.invokestatic 297, 3) := by decide +kernel
theorem dX11_lay_5 : decode cX11_lay 5 = .ok (.ifCond .ne 5, 3) := by decide +kernel
theorem dX11_lay_8 : decode cX11_lay 8 = .ok (.iconst (-1), 1) := by decide +kernel
theorem dX11_lay_9 : decode cX11_lay 9 = .ok (.ireturn, 1) := by decide +kernel
theorem dX11_lay_10 : decode cX11_lay 10 = .ok (.aload_n 0, 1) := by decide +kernel
theorem dX11_lay_11 : decode cX11_lay 11 = .ok (.getfield 34, 3) := by decide +kernel
theorem dX11_lay_14 : decode cX11_lay 14 = .ok (.iload_n 1, 1) := by decide +kernel
theorem dX11_lay_15 : decode cX11_lay 15 = .ok (.iaload, 1) := by decide +kernel
theorem dX11_lay_16 : decode cX11_lay 16 = .ok (.bipush (-4), 2) := by decide +kernel
theorem dX11_lay_18 : decode cX11_lay 18 = .ok (.if_icmp .ne 6, 3) := by decide +kernel
theorem dX11_lay_21 : decode cX11_lay 21 = .ok (.bipush (-11), 2) := by decide +kernel
theorem dX11_lay_23 : decode cX11_lay 23 = .ok (.ireturn, 1) := by decide +kernel
theorem dX11_lay_24 : decode cX11_lay 24 = .ok (.iload_n 2, 1) := by decide +kernel
theorem dX11_lay_25 : decode cX11_lay 25 = .ok (.i2l, 1) := by decide +kernel
theorem dX11_lay_26 : decode cX11_lay 26 = .ok (.lconst 0, 1) := by decide +kernel
theorem dX11_lay_27 : decode cX11_lay 27 = .ok (.aload_n 0, 1) := by decide +kernel
theorem dX11_lay_28 : decode cX11_lay 28 = .ok (.getfield 37, 3) := by decide +kernel
theorem dX11_lay_31 : decode cX11_lay 31 = .ok (.iload_n 1, 1) := by decide +kernel
theorem dX11_lay_32 : decode cX11_lay 32 = .ok (.iaload, 1) := by decide +kernel
theorem dX11_lay_33 : decode cX11_lay 33 = .ok (.iconst 1, 1) := by decide +kernel
theorem dX11_lay_34 : decode cX11_lay 34 = .ok (.isub, 1) := by decide +kernel
theorem dX11_lay_35 : decode cX11_lay 35 = .ok (.i2l, 1) := by decide +kernel
theorem dX11_lay_36 : decode cX11_lay 36 = .ok (.invokestatic 58, 3) := by decide +kernel
theorem dX11_lay_39 : decode cX11_lay 39 = .ok (.ifCond .ne 6, 3) := by decide +kernel
theorem dX11_lay_42 : decode cX11_lay 42 = .ok (.bipush (-12), 2) := by decide +kernel
theorem dX11_lay_44 : decode cX11_lay 44 = .ok (.ireturn, 1) := by decide +kernel
theorem dX11_lay_45 : decode cX11_lay 45 = .ok (.aload_n 0, 1) := by decide +kernel
theorem dX11_lay_46 : decode cX11_lay 46 = .ok (.getfield 40, 3) := by decide +kernel
theorem dX11_lay_49 : decode cX11_lay 49 = .ok (.bipush 40, 2) := by decide +kernel
theorem dX11_lay_51 : decode cX11_lay 51 = .ok (.iload_n 1, 1) := by decide +kernel
theorem dX11_lay_52 : decode cX11_lay 52 = .ok (.imul, 1) := by decide +kernel
theorem dX11_lay_53 : decode cX11_lay 53 = .ok (.iload_n 2, 1) := by decide +kernel
theorem dX11_lay_54 : decode cX11_lay 54 = .ok (.iadd, 1) := by decide +kernel
theorem dX11_lay_55 : decode cX11_lay 55 = .ok (.aload_n 0, 1) := by decide +kernel
theorem dX11_lay_56 : decode cX11_lay 56 = .ok (.getfield 34, 3) := by decide +kernel
theorem dX11_lay_59 : decode cX11_lay 59 = .ok (.iload_n 1, 1) := by decide +kernel
theorem dX11_lay_60 : decode cX11_lay 60 = .ok (.iaload, 1) := by decide +kernel
theorem dX11_lay_61 : decode cX11_lay 61 = .ok (.ifCond .ne 8, 3) := by decide +kernel
theorem dX11_lay_64 : decode cX11_lay 64 = .ok (.iload_n 3, 1) := by decide +kernel
theorem dX11_lay_65 : decode cX11_lay 65 = .ok (.i2b, 1) := by decide +kernel
theorem dX11_lay_66 : decode cX11_lay 66 = .ok (.goto 19, 3) := by decide +kernel
theorem dX11_lay_69 : decode cX11_lay 69 = .ok (.aload_n 0, 1) := by decide +kernel
theorem dX11_lay_70 : decode cX11_lay 70 = .ok (.getfield 34, 3) := by decide +kernel
theorem dX11_lay_73 : decode cX11_lay 73 = .ok (.iload_n 1, 1) := by decide +kernel
theorem dX11_lay_74 : decode cX11_lay 74 = .ok (.iaload, 1) := by decide +kernel
theorem dX11_lay_75 : decode cX11_lay 75 = .ok (.iconst 1, 1) := by decide +kernel
theorem dX11_lay_76 : decode cX11_lay 76 = .ok (.if_icmp .ne 8, 3) := by decide +kernel
theorem dX11_lay_79 : decode cX11_lay 79 = .ok (.iload_n 3, 1) := by decide +kernel
theorem dX11_lay_80 : decode cX11_lay 80 = .ok (.i2s, 1) := by decide +kernel
theorem dX11_lay_81 : decode cX11_lay 81 = .ok (.goto 4, 3) := by decide +kernel
theorem dX11_lay_84 : decode cX11_lay 84 = .ok (.iload_n 3, 1) := by decide +kernel
theorem dX11_lay_85 : decode cX11_lay 85 = .ok (.iastore, 1) := by decide +kernel
theorem dX11_lay_86 : decode cX11_lay 86 = .ok (.iconst 1, 1) := by decide +kernel
theorem dX11_lay_87 : decode cX11_lay 87 = .ok (.ireturn, 1) := by decide +kernel
theorem dX11_read_0 : decode cX11_read 0 = .ok (.iload_n 1, 1) := by decide +kernel
theorem dX11_read_1 : decode cX11_read 1 = .ok (.iload_n 2, 1) := by decide +kernel
theorem dX11_read_2 : decode cX11_read 2 = .ok (.invokestatic 297, 3) := by decide +kernel
theorem dX11_read_5 : decode cX11_read 5 = .ok (.ifCond .eq 16, 3) := by decide +kernel
theorem dX11_read_8 : decode cX11_read 8 = .ok (.iload 4, 2) := by decide +kernel
theorem dX11_read_10 : decode cX11_read 10 = .ok (.i2l, 1) := by decide +kernel
theorem dX11_read_11 : decode cX11_read 11 = .ok (.lconst 0, 1) := by decide +kernel
theorem dX11_read_12 : decode cX11_read 12 = .ok (.ldc2_w 142, 3) := by decide +kernel
theorem dX11_read_15 : decode cX11_read 15 = .ok (.invokestatic 58, 3) := by decide +kernel
theorem dX11_read_18 : decode cX11_read 18 = .ok (.ifCond .ne 5, 3) := by decide +kernel
theorem dX11_read_21 : decode cX11_read 21 = .ok (.iconst (-1), 1) := by decide +kernel
theorem dX11_read_22 : decode cX11_read 22 = .ok (.ireturn, 1) := by decide +kernel
theorem dX11_read_23 : decode cX11_read 23 = .ok (.aload_n 0, 1) := by decide +kernel
theorem dX11_read_24 : decode cX11_read 24 = .ok (.getfield 144, 3) := by decide +kernel
theorem dX11_read_27 : decode cX11_read 27 = .ok (.istore 5, 2) := by decide +kernel
theorem dX11_read_29 : decode cX11_read 29 = .ok (.iconst 0, 1) := by decide +kernel
theorem dX11_read_30 : decode cX11_read 30 = .ok (.istore 6, 2) := by decide +kernel
theorem dX11_read_32 : decode cX11_read 32 = .ok (.iconst 0, 1) := by decide +kernel
theorem dX11_read_33 : decode cX11_read 33 = .ok (.istore 7, 2) := by decide +kernel
theorem dX11_read_35 : decode cX11_read 35 = .ok (.iconst 0, 1) := by decide +kernel
theorem dX11_read_36 : decode cX11_read 36 = .ok (.istore 8, 2) := by decide +kernel
theorem dX11_read_38 : decode cX11_read 38 = .ok (.iload 8, 2) := by decide +kernel
theorem dX11_read_40 : decode cX11_read 40 = .ok (.iload 4, 2) := by decide +kernel
theorem dX11_read_42 : decode cX11_read 42 = .ok (.if_icmp .ge 175, 3) := by decide +kernel
theorem dX11_read_45 : decode cX11_read 45 = .ok (.iload 6, 2) := by decide +kernel
theorem dX11_read_47 : decode cX11_read 47 = .ok (.ifCond .ne 170, 3) := by decide +kernel
theorem dX11_read_50 : decode cX11_read 50 = .ok (.iconst 0, 1) := by decide +kernel
theorem dX11_read_51 : decode cX11_read 51 = .ok (.istore 9, 2) := by decide +kernel
theorem dX11_read_53 : decode cX11_read 53 = .ok (.iload 9, 2) := by decide +kernel
theorem dX11_read_55 : decode cX11_read 55 = .ok (.iconst 2, 1) := by decide +kernel
theorem dX11_read_56 : decode cX11_read 56 = .ok (.if_icmp .ge 84, 3) := by decide +kernel
theorem dX11_read_59 : decode cX11_read 59 = .ok (.iload 6, 2) := by decide +kernel
theorem dX11_read_61 : decode cX11_read 61 = .ok (.ifCond .ne 79, 3) := by decide +kernel
theorem dX11_read_64 : decode cX11_read 64 = .ok (.iload_n 3, 1) := by decide +kernel
theorem dX11_read_65 : decode cX11_read 65 = .ok (.i2l, 1) := by decide +kernel
theorem dX11_read_66 : decode cX11_read 66 = .ok (.iconst 2, 1) := by decide +kernel
theorem dX11_read_67 : decode cX11_read 67 = .ok (.iload 8, 2) := by decide +kernel
theorem dX11_read_69 : decode cX11_read 69 = .ok (.imul, 1) := by decide +kernel
theorem dX11_read_70 : decode cX11_read 70 = .ok (.i2l, 1) := by decide +kernel
theorem dX11_read_71 : decode cX11_read 71 = .ok (.ladd, 1) := by decide +kernel
theorem dX11_read_72 : decode cX11_read 72 = .ok (.iload 9, 2) := by decide +kernel
theorem dX11_read_74 : decode cX11_read 74 = .ok (.i2l, 1) := by decide +kernel
theorem dX11_read_75 : decode cX11_read 75 = .ok (.ladd, 1) := by decide +kernel
theorem dX11_read_76 : decode cX11_read 76 = .ok (.lstore 10, 2) := by decide +kernel
theorem dX11_read_78 : decode cX11_read 78 = .ok (.aload_n 0, 1) := by decide +kernel
theorem dX11_read_79 : decode cX11_read 79 = .ok (.getfield 34, 3) := by decide +kernel
theorem dX11_read_82 : decode cX11_read 82 = .ok (.iload_n 1, 1) := by decide +kernel
theorem dX11_read_83 : decode cX11_read 83 = .ok (.iaload, 1) := by decide +kernel
theorem dX11_read_84 : decode cX11_read 84 = .ok (.bipush (-4), 2) := by decide +kernel
theorem dX11_read_86 : decode cX11_read 86 = .ok (.if_icmp .ne 7, 3) := by decide +kernel
theorem dX11_read_89 : decode cX11_read 89 = .ok (.iconst 1, 1) := by decide +kernel
theorem dX11_read_90 : decode cX11_read 90 = .ok (.goto 42, 3) := by decide +kernel
theorem dX11_read_93 : decode cX11_read 93 = .ok (.aload_n 0, 1) := by decide +kernel
theorem dX11_read_94 : decode cX11_read 94 = .ok (.getfield 34, 3) := by decide +kernel
theorem dX11_read_97 : decode cX11_read 97 = .ok (.iload_n 1, 1) := by decide +kernel
theorem dX11_read_98 : decode cX11_read 98 = .ok (.iaload, 1) := by decide +kernel
theorem dX11_read_99 : decode cX11_read 99 = .ok (.iload_n 2, 1) := by decide +kernel
theorem dX11_read_100 : decode cX11_read 100 = .ok (.if_icmp .eq 7, 3) := by decide +kernel
theorem dX11_read_103 : decode cX11_read 103 = .ok (.iconst 3, 1) := by decide +kernel
theorem dX11_read_104 : decode cX11_read 104 = .ok (.goto 28, 3) := by decide +kernel
theorem dX11_read_107 : decode cX11_read 107 = .ok (.lload 10, 2) := by decide +kernel
theorem dX11_read_109 : decode cX11_read 109 = .ok (.lconst 0, 1) := by decide +kernel
theorem dX11_read_110 : decode cX11_read 110 = .ok (.lcmp, 1) := by decide +kernel
theorem dX11_read_111 : decode cX11_read 111 = .ok (.ifCond .lt 16, 3) := by decide +kernel
theorem dX11_read_114 : decode cX11_read 114 = .ok (.lload 10, 2) := by decide +kernel
theorem dX11_read_116 : decode cX11_read 116 = .ok (.aload_n 0, 1) := by decide +kernel
theorem dX11_read_117 : decode cX11_read 117 = .ok (.getfield 37, 3) := by decide +kernel
theorem dX11_read_120 : decode cX11_read 120 = .ok (.iload_n 1, 1) := by decide +kernel
theorem dX11_read_121 : decode cX11_read 121 = .ok (.iaload, 1) := by decide +kernel
theorem dX11_read_122 : decode cX11_read 122 = .ok (.i2l, 1) := by decide +kernel
theorem dX11_read_123 : decode cX11_read 123 = .ok (.lcmp, 1) := by decide +kernel
theorem dX11_read_124 : decode cX11_read 124 = .ok (.ifCond .lt 7, 3) := by decide +kernel
theorem dX11_read_127 : decode cX11_read 127 = .ok (.iconst 2, 1) := by decide +kernel
theorem dX11_read_128 : decode cX11_read 128 = .ok (.goto 4, 3) := by decide +kernel
theorem dX11_read_131 : decode cX11_read 131 = .ok (.iconst 0, 1) := by decide +kernel
theorem dX11_read_132 : decode cX11_read 132 = .ok (.istore 6, 2) := by decide +kernel
theorem dX11_read_134 : decode cX11_read 134 = .ok (.iinc 9 1, 3) := by decide +kernel
theorem dX11_read_137 : decode cX11_read 137 = .ok (.goto (-84), 3) := by decide +kernel
theorem dX11_read_140 : decode cX11_read 140 = .ok (.iload 6, 2) := by decide +kernel
theorem dX11_read_142 : decode cX11_read 142 = .ok (.ifCond .ne 69, 3) := by decide +kernel
theorem dX11_read_145 : decode cX11_read 145 = .ok (.bipush 40, 2) := by decide +kernel
theorem dX11_read_147 : decode cX11_read 147 = .ok (.iload_n 1, 1) := by decide +kernel
theorem dX11_read_148 : decode cX11_read 148 = .ok (.imul, 1) := by decide +kernel
theorem dX11_read_149 : decode cX11_read 149 = .ok (.iload_n 3, 1) := by decide +kernel
theorem dX11_read_150 : decode cX11_read 150 = .ok (.iadd, 1) := by decide +kernel
theorem dX11_read_151 : decode cX11_read 151 = .ok (.iconst 2, 1) := by decide +kernel
theorem dX11_read_152 : decode cX11_read 152 = .ok (.iload 8, 2) := by decide +kernel
theorem dX11_read_154 : decode cX11_read 154 = .ok (.imul, 1) := by decide +kernel
theorem dX11_read_155 : decode cX11_read 155 = .ok (.iadd, 1) := by decide +kernel
theorem dX11_read_156 : decode cX11_read 156 = .ok (.istore 9, 2) := by decide +kernel
theorem dX11_read_158 : decode cX11_read 158 = .ok (.aload_n 0, 1) := by decide +kernel
theorem dX11_read_159 : decode cX11_read 159 = .ok (.aload_n 0, 1) := by decide +kernel
theorem dX11_read_160 : decode cX11_read 160 = .ok (.getfield 40, 3) := by decide +kernel
theorem dX11_read_163 : decode cX11_read 163 = .ok (.iload 9, 2) := by decide +kernel
theorem dX11_read_165 : decode cX11_read 165 = .ok (.iaload, 1) := by decide +kernel
theorem dX11_read_166 : decode cX11_read 166 = .ok (.aload_n 0, 1) := by decide +kernel
theorem dX11_read_167 : decode cX11_read 167 = .ok (.getfield 40, 3) := by decide +kernel
theorem dX11_read_170 : decode cX11_read 170 = .ok (.iload 9, 2) := by decide +kernel
theorem dX11_read_172 : decode cX11_read 172 = .ok (.iconst 1, 1) := by decide +kernel
theorem dX11_read_173 : decode cX11_read 173 = .ok (.iadd, 1) := by decide +kernel
theorem dX11_read_174 : decode cX11_read 174 = .ok (.iaload, 1) := by decide +kernel
theorem dX11_read_175 : decode cX11_read 175 = .ok (.invokevirtual 300, 3) := by decide +kernel
theorem dX11_read_178 : decode cX11_read 178 = .ok (.istore 10, 2) := by decide +kernel
theorem dX11_read_180 : decode cX11_read 180 = .ok (.iload 10, 2) := by decide +kernel
theorem dX11_read_182 : decode cX11_read 182 = .ok (.ifCond .ge 26, 3) := by decide +kernel
theorem dX11_read_185 : decode cX11_read 185 = .ok (.aload_n 0, 1) := by decide +kernel
theorem dX11_read_186 : decode cX11_read 186 = .ok (.iload 5, 2) := by decide +kernel
theorem dX11_read_188 : decode cX11_read 188 = .ok (.putfield 144, 3) := by decide +kernel
theorem dX11_read_191 : decode cX11_read 191 = .ok (.iload 10, 2) := by decide +kernel
theorem dX11_read_193 : decode cX11_read 193 = .ok (.iconst (-1), 1) := by decide +kernel
theorem dX11_read_194 : decode cX11_read 194 = .ok (.if_icmp .ne 11, 3) := by decide +kernel
theorem dX11_read_197 : decode cX11_read 197 = .ok (.bipush (-20), 2) := by decide +kernel
theorem dX11_read_199 : decode cX11_read 199 = .ok (.iload 8, 2) := by decide +kernel
theorem dX11_read_201 : decode cX11_read 201 = .ok (.isub, 1) := by decide +kernel
theorem dX11_read_202 : decode cX11_read 202 = .ok (.goto 5, 3) := by decide +kernel
theorem dX11_read_205 : decode cX11_read 205 = .ok (.bipush (-3), 2) := by decide +kernel
theorem dX11_read_207 : decode cX11_read 207 = .ok (.ireturn, 1) := by decide +kernel
theorem dX11_read_208 : decode cX11_read 208 = .ok (.iinc 7 1, 3) := by decide +kernel
theorem dX11_read_211 : decode cX11_read 211 = .ok (.iinc 8 1, 3) := by decide +kernel
theorem dX11_read_214 : decode cX11_read 214 = .ok (.goto (-176), 3) := by decide +kernel
theorem dX11_read_217 : decode cX11_read 217 = .ok (.aload_n 0, 1) := by decide +kernel
theorem dX11_read_218 : decode cX11_read 218 = .ok (.iload 6, 2) := by decide +kernel
theorem dX11_read_220 : decode cX11_read 220 = .ok (.putfield 303, 3) := by decide +kernel
theorem dX11_read_223 : decode cX11_read 223 = .ok (.iload 7, 2) := by decide +kernel
theorem dX11_read_225 : decode cX11_read 225 = .ok (.ireturn, 1) := by decide +kernel
theorem dX11_torn_0 : decode cX11_torn 0 = .ok (.aload_n 0, 1) := by decide +kernel
theorem dX11_torn_1 : decode cX11_torn 1 = .ok (.getfield 303, 3) := by decide +kernel
theorem dX11_torn_4 : decode cX11_torn 4 = .ok (.ireturn, 1) := by decide +kernel
theorem dX11_count_0 : decode cX11_count 0 = .ok (.iload_n 1, 1) := by decide +kernel
theorem dX11_count_1 : decode cX11_count 1 = .ok (.tableswitch 104 0 3 #[31, 36, 76, 81], 31) := by decide +kernel
theorem dX11_count_32 : decode cX11_count 32 = .ok (.aload_n 0, 1) := by decide +kernel
theorem dX11_count_33 : decode cX11_count 33 = .ok (.getfield 144, 3) := by decide +kernel
theorem dX11_count_36 : decode cX11_count 36 = .ok (.ireturn, 1) := by decide +kernel
theorem dX11_count_37 : decode cX11_count 37 = .ok (.aload_n 0, 1) := by decide +kernel
theorem dX11_count_38 : decode cX11_count 38 = .ok (.getfield 22, 3) := by decide +kernel
theorem dX11_count_41 : decode cX11_count 41 = .ok (.iconst 0, 1) := by decide +kernel
theorem dX11_count_42 : decode cX11_count 42 = .ok (.iaload, 1) := by decide +kernel
theorem dX11_count_43 : decode cX11_count 43 = .ok (.bipush (-4), 2) := by decide +kernel
theorem dX11_count_45 : decode cX11_count 45 = .ok (.if_icmp .eq 7, 3) := by decide +kernel
theorem dX11_count_48 : decode cX11_count 48 = .ok (.iconst 1, 1) := by decide +kernel
theorem dX11_count_49 : decode cX11_count 49 = .ok (.goto 4, 3) := by decide +kernel
theorem dX11_count_52 : decode cX11_count 52 = .ok (.iconst 0, 1) := by decide +kernel
theorem dX11_count_53 : decode cX11_count 53 = .ok (.invokestatic 213, 3) := by decide +kernel
theorem dX11_count_56 : decode cX11_count 56 = .ok (.aload_n 0, 1) := by decide +kernel
theorem dX11_count_57 : decode cX11_count 57 = .ok (.getfield 22, 3) := by decide +kernel
theorem dX11_count_60 : decode cX11_count 60 = .ok (.iconst 1, 1) := by decide +kernel
theorem dX11_count_61 : decode cX11_count 61 = .ok (.iaload, 1) := by decide +kernel
theorem dX11_count_62 : decode cX11_count 62 = .ok (.bipush (-4), 2) := by decide +kernel
theorem dX11_count_64 : decode cX11_count 64 = .ok (.if_icmp .eq 7, 3) := by decide +kernel
theorem dX11_count_67 : decode cX11_count 67 = .ok (.iconst 1, 1) := by decide +kernel
theorem dX11_count_68 : decode cX11_count 68 = .ok (.goto 4, 3) := by decide +kernel
theorem dX11_count_71 : decode cX11_count 71 = .ok (.iconst 0, 1) := by decide +kernel
theorem dX11_count_72 : decode cX11_count 72 = .ok (.invokestatic 213, 3) := by decide +kernel
theorem dX11_count_75 : decode cX11_count 75 = .ok (.iadd, 1) := by decide +kernel
theorem dX11_count_76 : decode cX11_count 76 = .ok (.ireturn, 1) := by decide +kernel
theorem dX11_count_77 : decode cX11_count 77 = .ok (.aload_n 0, 1) := by decide +kernel
theorem dX11_count_78 : decode cX11_count 78 = .ok (.getfield 53, 3) := by decide +kernel
theorem dX11_count_81 : decode cX11_count 81 = .ok (.ireturn, 1) := by decide +kernel
theorem dX11_count_82 : decode cX11_count 82 = .ok (.aload_n 0, 1) := by decide +kernel
theorem dX11_count_83 : decode cX11_count 83 = .ok (.getfield 34, 3) := by decide +kernel
theorem dX11_count_86 : decode cX11_count 86 = .ok (.iconst 0, 1) := by decide +kernel
theorem dX11_count_87 : decode cX11_count 87 = .ok (.iaload, 1) := by decide +kernel
theorem dX11_count_88 : decode cX11_count 88 = .ok (.bipush (-4), 2) := by decide +kernel
theorem dX11_count_90 : decode cX11_count 90 = .ok (.if_icmp .ne 8, 3) := by decide +kernel
theorem dX11_count_93 : decode cX11_count 93 = .ok (.bipush (-4), 2) := by decide +kernel
theorem dX11_count_95 : decode cX11_count 95 = .ok (.goto 9, 3) := by decide +kernel
theorem dX11_count_98 : decode cX11_count 98 = .ok (.aload_n 0, 1) := by decide +kernel
theorem dX11_count_99 : decode cX11_count 99 = .ok (.getfield 37, 3) := by decide +kernel
theorem dX11_count_102 : decode cX11_count 102 = .ok (.iconst 0, 1) := by decide +kernel
theorem dX11_count_103 : decode cX11_count 103 = .ok (.iaload, 1) := by decide +kernel
theorem dX11_count_104 : decode cX11_count 104 = .ok (.ireturn, 1) := by decide +kernel
theorem dX11_count_105 : decode cX11_count 105 = .ok (.iconst (-1), 1) := by decide +kernel
theorem dX11_count_106 : decode cX11_count 106 = .ok (.ireturn, 1) := by decide +kernel
