theorem dX10_init_0 : decode cX10_init 0 = .ok (.aload_n 0, 1) := by decide +kernel
theorem dX10_init_1 : decode cX10_init 1 = .ok (.invokespecial 1, 3) := by decide +kernel
theorem dX10_init_4 : decode cX10_init 4 = .ok (.aload_n 0, 1) := by decide +kernel
theorem dX10_init_5 : decode cX10_init 5 = .ok (.bipush 40, 2) := by decide +kernel
theorem dX10_init_7 : decode cX10_init 7 = .ok (.newarray .int, 2) := by decide +kernel
theorem dX10_init_9 : decode cX10_init 9 = .ok (.putfield 7, 3) := by decide +kernel
theorem dX10_init_12 : decode cX10_init 12 = .ok (.aload_n 0, 1) := by decide +kernel
theorem dX10_init_13 : decode cX10_init 13 = .ok (.iconst 2, 1) := by decide +kernel
theorem dX10_init_14 : decode cX10_init 14 = .ok (.putfield 13, 3) := by decide +kernel
theorem dX10_init_17 : decode cX10_init 17 = .ok (.aload_n 0, 1) := by decide +kernel
theorem dX10_init_18 : decode cX10_init 18 = .ok (.iconst 2, 1) := by decide +kernel
theorem dX10_init_19 : decode cX10_init 19 = .ok (.newarray .int, 2) := by decide +kernel
theorem dX10_init_21 : decode cX10_init 21 = .ok (.putfield 17, 3) := by decide +kernel
theorem dX10_init_24 : decode cX10_init 24 = .ok (.aload_n 0, 1) := by decide +kernel
theorem dX10_init_25 : decode cX10_init 25 = .ok (.bipush 8, 2) := by decide +kernel
theorem dX10_init_27 : decode cX10_init 27 = .ok (.newarray .int, 2) := by decide +kernel
theorem dX10_init_29 : decode cX10_init 29 = .ok (.putfield 20, 3) := by decide +kernel
theorem dX10_init_32 : decode cX10_init 32 = .ok (.aload_n 0, 1) := by decide +kernel
theorem dX10_init_33 : decode cX10_init 33 = .ok (.bipush 8, 2) := by decide +kernel
theorem dX10_init_35 : decode cX10_init 35 = .ok (.newarray .int, 2) := by decide +kernel
theorem dX10_init_37 : decode cX10_init 37 = .ok (.putfield 23, 3) := by decide +kernel
theorem dX10_init_40 : decode cX10_init 40 = .ok (.aload_n 0, 1) := by decide +kernel
theorem dX10_init_41 : decode cX10_init 41 = .ok (.bipush 8, 2) := by decide +kernel
theorem dX10_init_43 : decode cX10_init 43 = .ok (.newarray .int, 2) := by decide +kernel
theorem dX10_init_45 : decode cX10_init 45 = .ok (.putfield 26, 3) := by decide +kernel
theorem dX10_init_48 : decode cX10_init 48 = .ok (.aload_n 0, 1) := by decide +kernel
theorem dX10_init_49 : decode cX10_init 49 = .ok (.iconst 5, 1) := by decide +kernel
theorem dX10_init_50 : decode cX10_init 50 = .ok (.newarray .int, 2) := by decide +kernel
theorem dX10_init_52 : decode cX10_init 52 = .ok (.putfield 29, 3) := by decide +kernel
theorem dX10_init_55 : decode cX10_init 55 = .ok (.aload_n 0, 1) := by decide +kernel
theorem dX10_init_56 : decode cX10_init 56 = .ok (.bipush 24, 2) := by decide +kernel
theorem dX10_init_58 : decode cX10_init 58 = .ok (.newarray .int, 2) := by decide +kernel
theorem dX10_init_60 : decode cX10_init 60 = .ok (.putfield 32, 3) := by decide +kernel
theorem dX10_init_63 : decode cX10_init 63 = .ok (.aload_n 0, 1) := by decide +kernel
theorem dX10_init_64 : decode cX10_init 64 = .ok (.bipush 16, 2) := by decide +kernel
theorem dX10_init_66 : decode cX10_init 66 = .ok (.newarray .int, 2) := by decide +kernel
theorem dX10_init_68 : decode cX10_init 68 = .ok (.putfield 35, 3) := by decide +kernel
theorem dX10_init_71 : decode cX10_init 71 = .ok (.aload_n 0, 1) := by decide +kernel
theorem dX10_init_72 : decode cX10_init 72 = .ok (.sipush 224, 3) := by decide +kernel
theorem dX10_init_75 : decode cX10_init 75 = .ok (.newarray .int, 2) := by decide +kernel
theorem dX10_init_77 : decode cX10_init 77 = .ok (.putfield 38, 3) := by decide +kernel
theorem dX10_init_80 : decode cX10_init 80 = .ok (.aload_n 0, 1) := by decide +kernel
theorem dX10_init_81 : decode cX10_init 81 = .ok (.bipush 32, 2) := by decide +kernel
theorem dX10_init_83 : decode cX10_init 83 = .ok (.newarray .int, 2) := by decide +kernel
theorem dX10_init_85 : decode cX10_init 85 = .ok (.putfield 41, 3) := by decide +kernel
theorem dX10_init_88 : decode cX10_init 88 = .ok (.aload_n 0, 1) := by decide +kernel
theorem dX10_init_89 : decode cX10_init 89 = .ok (.iconst 2, 1) := by decide +kernel
theorem dX10_init_90 : decode cX10_init 90 = .ok (.newarray .boolean, 2) := by decide +kernel
theorem dX10_init_92 : decode cX10_init 92 = .ok (.putfield 44, 3) := by decide +kernel
theorem dX10_init_95 : decode cX10_init 95 = .ok (.aload_n 0, 1) := by decide +kernel
theorem dX10_init_96 : decode cX10_init 96 = .ok (.bipush 6, 2) := by decide +kernel
theorem dX10_init_98 : decode cX10_init 98 = .ok (.newarray .int, 2) := by decide +kernel
theorem dX10_init_100 : decode cX10_init 100 = .ok (.putfield 48, 3) := by decide +kernel
theorem dX10_init_103 : decode cX10_init 103 = .ok (.aload_n 0, 1) := by decide +kernel
theorem dX10_init_104 : decode cX10_init 104 = .ok (.bipush 6, 2) := by decide +kernel
theorem dX10_init_106 : decode cX10_init 106 = .ok (.newarray .int, 2) := by decide +kernel
theorem dX10_init_108 : decode cX10_init 108 = .ok (.putfield 51, 3) := by decide +kernel
theorem dX10_init_111 : decode cX10_init 111 = .ok (.aload_n 0, 1) := by decide +kernel
theorem dX10_init_112 : decode cX10_init 112 = .ok (.bipush 16, 2) := by decide +kernel
theorem dX10_init_114 : decode cX10_init 114 = .ok (.newarray .int, 2) := by decide +kernel
theorem dX10_init_116 : decode cX10_init 116 = .ok (.putfield 54, 3) := by decide +kernel
theorem dX10_init_119 : decode cX10_init 119 = .ok (.aload_n 0, 1) := by decide +kernel
theorem dX10_init_120 : decode cX10_init 120 = .ok (.getfield 35, 3) := by decide +kernel
theorem dX10_init_123 : decode cX10_init 123 = .ok (.iconst 1, 1) := by decide +kernel
theorem dX10_init_124 : decode cX10_init 124 = .ok (.iconst 2, 1) := by decide +kernel
theorem dX10_init_125 : decode cX10_init 125 = .ok (.iastore, 1) := by decide +kernel
theorem dX10_init_126 : decode cX10_init 126 = .ok (.return_, 1) := by decide +kernel
theorem dX10_in_0 : decode cX10_in 0 = .ok (.lload_n 0, 1) := by decide +kernel
theorem dX10_in_1 : decode cX10_in 1 = .ok (.lload_n 2, 1) := by decide +kernel
theorem dX10_in_2 : decode cX10_in 2 = .ok (.lcmp, 1) := by decide +kernel
theorem dX10_in_3 : decode cX10_in 3 = .ok (.ifCond .lt 14, 3) := by decide +kernel
theorem dX10_in_6 : decode cX10_in 6 = .ok (.lload_n 0, 1) := by decide +kernel
theorem dX10_in_7 : decode cX10_in 7 = .ok (.lload 4, 2) := by decide +kernel
theorem dX10_in_9 : decode cX10_in 9 = .ok (.lcmp, 1) := by decide +kernel
theorem dX10_in_10 : decode cX10_in 10 = .ok (.ifCond .gt 7, 3) := by decide +kernel
theorem dX10_in_13 : decode cX10_in 13 = .ok (.iconst 1, 1) := by decide +kernel
theorem dX10_in_14 : decode cX10_in 14 = .ok (.goto 4, 3) := by decide +kernel
theorem dX10_in_17 : decode cX10_in 17 = .ok (.iconst 0, 1) := by decide +kernel
theorem dX10_in_18 : decode cX10_in 18 = .ok (.ireturn, 1) := by decide +kernel
theorem dX10_has_0 : decode cX10_has 0 = .ok (.iload_n 0, 1) := by decide +kernel
theorem dX10_has_1 : decode cX10_has 1 = .ok (.iload_n 1, 1) := by decide +kernel
theorem dX10_has_2 : decode cX10_has 2 = .ok (.ishr, 1) := by decide +kernel
theorem dX10_has_3 : decode cX10_has 3 = .ok (.iconst 1, 1) := by decide +kernel
theorem dX10_has_4 : decode cX10_has 4 = .ok (.iand, 1) := by decide +kernel
theorem dX10_has_5 : decode cX10_has 5 = .ok (.iconst 1, 1) := by decide +kernel
theorem dX10_has_6 : decode cX10_has 6 = .ok (.if_icmp .ne 7, 3) := by decide +kernel
theorem dX10_has_9 : decode cX10_has 9 = .ok (.iconst 1, 1) := by decide +kernel
theorem dX10_has_10 : decode cX10_has 10 = .ok (.goto 4, 3) := by decide +kernel
theorem dX10_has_13 : decode cX10_has 13 = .ok (.iconst 0, 1) := by decide +kernel
theorem dX10_has_14 : decode cX10_has 14 = .ok (.ireturn, 1) := by decide +kernel
theorem dX10_many_0 : decode cX10_many 0 = .ok (.iconst 0, 1) := by decide +kernel
theorem dX10_many_1 : decode cX10_many 1 = .ok (.istore_n 1, 1) := by decide +kernel
theorem dX10_many_2 : decode cX10_many 2 = .ok (.iconst 0, 1) := by decide +kernel
theorem dX10_many_3 : decode cX10_many 3 = .ok (.istore_n 2, 1) := by decide +kernel
theorem dX10_many_4 : decode cX10_many 4 = .ok (.iload_n 2, 1) := by decide +kernel
theorem dX10_many_5 : decode cX10_many 5 = .ok (.bipush 8, 2) := by decide +kernel
theorem dX10_many_7 : decode cX10_many 7 = .ok (.if_icmp .ge 17, 3) := by decide +kernel
theorem dX10_many_10 : decode cX10_many 10 = .ok (.iload_n 1, 1) := by decide +kernel
theorem dX10_many_11 : decode cX10_many 11 = .ok (.iload_n 0, 1) := by decide +kernel
theorem dX10_many_12 : decode cX10_many 12 = .ok (.iload_n 2, 1) := by decide +kernel
theorem dX10_many_13 : decode cX10_many 13 = .ok (.ishr, 1) := by decide +kernel
theorem dX10_many_14 : decode cX10_many 14 = .ok (.iconst 1, 1) := by decide +kernel
theorem dX10_many_15 : decode cX10_many 15 = .ok (.iand, 1) := by decide +kernel
theorem dX10_many_16 : decode cX10_many 16 = .ok (.iadd, 1) := by decide +kernel
theorem dX10_many_17 : decode cX10_many 17 = .ok (.istore_n 1, 1) := by decide +kernel
theorem dX10_many_18 : decode cX10_many 18 = .ok (.iinc 2 1, 3) := by decide +kernel
theorem dX10_many_21 : decode cX10_many 21 = .ok (.goto (-17), 3) := by decide +kernel
theorem dX10_many_24 : decode cX10_many 24 = .ok (.iload_n 1, 1) := by decide +kernel
theorem dX10_many_25 : decode cX10_many 25 = .ok (.ireturn, 1) := by decide +kernel
theorem dX10_size_0 : decode cX10_size 0 = .ok (.iload_n 0, 1) := by decide +kernel
theorem dX10_size_1 : decode cX10_size 1 = .ok (.ifCond .ge 8, 3) := by decide +kernel
theorem dX10_size_4 : decode cX10_size 4 = .ok (.iload_n 0, 1) := by decide +kernel
theorem dX10_size_5 : decode cX10_size 5 = .ok (.ineg, 1) := by decide +kernel
theorem dX10_size_6 : decode cX10_size 6 = .ok (.goto 4, 3) := by decide +kernel
theorem dX10_size_9 : decode cX10_size 9 = .ok (.iload_n 0, 1) := by decide +kernel
theorem dX10_size_10 : decode cX10_size 10 = .ok (.ireturn, 1) := by decide +kernel
theorem dX10_ahead_0 : decode cX10_ahead 0 = .ok (.aload_n 0, 1) := by decide +kernel
theorem dX10_ahead_1 : decode cX10_ahead 1 = .ok (.getfield 60, 3) := by decide +kernel
theorem dX10_ahead_4 : decode cX10_ahead 4 = .ok (.aload_n 0, 1) := by decide +kernel
theorem dX10_ahead_5 : decode cX10_ahead 5 = .ok (.getfield 35, 3) := by decide +kernel
theorem dX10_ahead_8 : decode cX10_ahead 8 = .ok (.iconst 0, 1) := by decide +kernel
theorem dX10_ahead_9 : decode cX10_ahead 9 = .ok (.iaload, 1) := by decide +kernel
theorem dX10_ahead_10 : decode cX10_ahead 10 = .ok (.isub, 1) := by decide +kernel
theorem dX10_ahead_11 : decode cX10_ahead 11 = .ok (.ireturn, 1) := by decide +kernel
set_option maxRecDepth 20000 in
theorem ggX10_noStage_X10_in : GoodIn wsX10_noStage wsX10_in := goodIn_r _ [5] (by decide +kernel) (by decide +kernel)
set_option maxRecDepth 20000 in
theorem gX10_noStage_X10_in : GoodIn wsX10_noStage (va_wsS RX10 63 yX10_in wsX10_in) := goodIn_app (goodIn_of _ (by decide +kernel)) ggX10_noStage_X10_in
theorem dX10_noStage_0 : decode cX10_noStage 0 = .ok (.iload_n 1, 1) := by decide +kernel
theorem dX10_noStage_1 : decode cX10_noStage 1 = .ok (.i2l, 1) := by decide +kernel
theorem dX10_noStage_2 : decode cX10_noStage 2 = .ok (.lconst 0, 1) := by decide +kernel
theorem dX10_noStage_3 : decode cX10_noStage 3 = .ok (.aload_n 0, 1) := by decide +kernel
theorem dX10_noStage_4 : decode cX10_noStage 4 = .ok (.getfield 60, 3) := by decide +kernel
theorem dX10_noStage_7 : decode cX10_noStage 7 = .ok (.iconst 1, 1) := by decide +kernel
theorem dX10_noStage_8 : decode cX10_noStage 8 = .ok (.isub, 1) := by decide +kernel
theorem dX10_noStage_9 : decode cX10_noStage 9 = .ok (.i2l, 1) := by decide +kernel
theorem dX10_noStage_10 : decode cX10_noStage 10 = .ok (.invokestatic 63, 3) := by decide +kernel
theorem dX10_noStage_13 : decode cX10_noStage 13 = .ok (.ifCond .ne 7, 3) := by decide +kernel
theorem dX10_noStage_16 : decode cX10_noStage 16 = .ok (.iconst 1, 1) := by decide +kernel
theorem dX10_noStage_17 : decode cX10_noStage 17 = .ok (.goto 4, 3) := by decide +kernel
theorem dX10_noStage_20 : decode cX10_noStage 20 = .ok (.iconst 0, 1) := by decide +kernel
theorem dX10_noStage_21 : decode cX10_noStage 21 = .ok (.ireturn, 1) := by decide +kernel
set_option maxRecDepth 20000 in
theorem ggX10_write_X10_in : GoodIn wsX10_write wsX10_in := goodIn_r _ [8] (by decide +kernel) (by decide +kernel)
set_option maxRecDepth 20000 in
theorem gX10_write_X10_in : GoodIn wsX10_write (va_wsS RX10 63 yX10_in wsX10_in) := goodIn_app (goodIn_of _ (by decide +kernel)) ggX10_write_X10_in
theorem dX10_write_0 : decode cX10_write 0 = .ok (.aload_n 0, 1) := by decide +kernel
theorem dX10_write_1 : decode cX10_write 1 = .ok (.iconst 0, 1) := by decide +kernel
theorem dX10_write_2 : decode cX10_write 2 = .ok (.putfield 57, 3) := by decide +kernel
theorem dX10_write_5 : decode cX10_write 5 = .ok (.iload_n 1, 1) := by decide +kernel
theorem dX10_write_6 : decode cX10_write 6 = .ok (.i2l, 1) := by decide +kernel
theorem dX10_write_7 : decode cX10_write 7 = .ok (.lconst 0, 1) := by decide +kernel
theorem dX10_write_8 : decode cX10_write 8 = .ok (.ldc2_w 67, 3) := by decide +kernel
theorem dX10_write_11 : decode cX10_write 11 = .ok (.invokestatic 63, 3) := by decide +kernel
theorem dX10_write_14 : decode cX10_write 14 = .ok (.ifCond .ne 6, 3) := by decide +kernel
theorem dX10_write_17 : decode cX10_write 17 = .ok (.bipush (-2), 2) := by decide +kernel
theorem dX10_write_19 : decode cX10_write 19 = .ok (.ireturn, 1) := by decide +kernel
theorem dX10_write_20 : decode cX10_write 20 = .ok (.aload_n 0, 1) := by decide +kernel
theorem dX10_write_21 : decode cX10_write 21 = .ok (.getfield 69, 3) := by decide +kernel
theorem dX10_write_24 : decode cX10_write 24 = .ok (.bipush 40, 2) := by decide +kernel
theorem dX10_write_26 : decode cX10_write 26 = .ok (.if_icmp .ne 6, 3) := by decide +kernel
theorem dX10_write_29 : decode cX10_write 29 = .ok (.bipush (-4), 2) := by decide +kernel
theorem dX10_write_31 : decode cX10_write 31 = .ok (.ireturn, 1) := by decide +kernel
theorem dX10_write_32 : decode cX10_write 32 = .ok (.aload_n 0, 1) := by decide +kernel
theorem dX10_write_33 : decode cX10_write 33 = .ok (.getfield 7, 3) := by decide +kernel
theorem dX10_write_36 : decode cX10_write 36 = .ok (.aload_n 0, 1) := by decide +kernel
theorem dX10_write_37 : decode cX10_write 37 = .ok (.getfield 69, 3) := by decide +kernel
theorem dX10_write_40 : decode cX10_write 40 = .ok (.iload_n 1, 1) := by decide +kernel
theorem dX10_write_41 : decode cX10_write 41 = .ok (.iastore, 1) := by decide +kernel
theorem dX10_write_42 : decode cX10_write 42 = .ok (.aload_n 0, 1) := by decide +kernel
theorem dX10_write_43 : decode cX10_write 43 = .ok (.dup, 1) := by decide +kernel
theorem dX10_write_44 : decode cX10_write 44 = .ok (.getfield 69, 3) := by decide +kernel
theorem dX10_write_47 : decode cX10_write 47 = .ok (.iconst 1, 1) := by decide +kernel
theorem dX10_write_48 : decode cX10_write 48 = .ok (.iadd, 1) := by decide +kernel
theorem dX10_write_49 : decode cX10_write 49 = .ok (.putfield 69, 3) := by decide +kernel
theorem dX10_write_52 : decode cX10_write 52 = .ok (.aload_n 0, 1) := by decide +kernel
theorem dX10_write_53 : decode cX10_write 53 = .ok (.getfield 69, 3) := by decide +kernel
theorem dX10_write_56 : decode cX10_write 56 = .ok (.ireturn, 1) := by decide +kernel
theorem dX10_wipe_0 : decode cX10_wipe 0 = .ok (.aload_n 0, 1) := by decide +kernel
theorem dX10_wipe_1 : decode cX10_wipe 1 = .ok (.iconst 0, 1) := by decide +kernel
theorem dX10_wipe_2 : decode cX10_wipe 2 = .ok (.putfield 57, 3) := by decide +kernel
theorem dX10_wipe_5 : decode cX10_wipe 5 = .ok (.aload_n 0, 1) := by decide +kernel
theorem dX10_wipe_6 : decode cX10_wipe 6 = .ok (.getfield 69, 3) := by decide +kernel
theorem dX10_wipe_9 : decode cX10_wipe 9 = .ok (.istore_n 1, 1) := by decide +kernel
theorem dX10_wipe_10 : decode cX10_wipe 10 = .ok (.aload_n 0, 1) := by decide +kernel
theorem dX10_wipe_11 : decode cX10_wipe 11 = .ok (.iconst 0, 1) := by decide +kernel
theorem dX10_wipe_12 : decode cX10_wipe 12 = .ok (.putfield 69, 3) := by decide +kernel
theorem dX10_wipe_15 : decode cX10_wipe 15 = .ok (.iload_n 1, 1) := by decide +kernel
theorem dX10_wipe_16 : decode cX10_wipe 16 = .ok (.ireturn, 1) := by decide +kernel
set_option maxRecDepth 20000 in
theorem ggX10_figure_X10_in : GoodIn wsX10_figure wsX10_in := goodIn_r _ [7] (by decide +kernel) (by decide +kernel)
set_option maxRecDepth 20000 in
theorem gX10_figure_X10_in : GoodIn wsX10_figure (va_wsS RX10 63 yX10_in wsX10_in) := goodIn_app (goodIn_of _ (by decide +kernel)) ggX10_figure_X10_in
theorem dX10_figure_0 : decode cX10_figure 0 = .ok (.aload_n 0, 1) := by decide +kernel
theorem dX10_figure_1 : decode cX10_figure 1 = .ok (.getfield 72, 3) := by decide +kernel
theorem dX10_figure_4 : decode cX10_figure 4 = .ok (.aload_n 0, 1) := by decide +kernel
theorem dX10_figure_5 : decode cX10_figure 5 = .ok (.getfield 69, 3) := by decide +kernel
theorem dX10_figure_8 : decode cX10_figure 8 = .ok (.if_icmp .eq 26, 3) := by decide +kernel
theorem dX10_figure_11 : decode cX10_figure 11 = .ok (.aload_n 0, 1) := by decide +kernel
theorem dX10_figure_12 : decode cX10_figure 12 = .ok (.getfield 7, 3) := by decide +kernel
theorem dX10_figure_15 : decode cX10_figure 15 = .ok (.aload_n 0, 1) := by decide +kernel
theorem dX10_figure_16 : decode cX10_figure 16 = .ok (.getfield 72, 3) := by decide +kernel
theorem dX10_figure_19 : decode cX10_figure 19 = .ok (.iaload, 1) := by decide +kernel
theorem dX10_figure_20 : decode cX10_figure 20 = .ok (.bipush 48, 2) := by decide +kernel
theorem dX10_figure_22 : decode cX10_figure 22 = .ok (.isub, 1) := by decide +kernel
theorem dX10_figure_23 : decode cX10_figure 23 = .ok (.i2l, 1) := by decide +kernel
theorem dX10_figure_24 : decode cX10_figure 24 = .ok (.iload_n 1, 1) := by decide +kernel
theorem dX10_figure_25 : decode cX10_figure 25 = .ok (.i2l, 1) := by decide +kernel
theorem dX10_figure_26 : decode cX10_figure 26 = .ok (.iload_n 2, 1) := by decide +kernel
theorem dX10_figure_27 : decode cX10_figure 27 = .ok (.i2l, 1) := by decide +kernel
theorem dX10_figure_28 : decode cX10_figure 28 = .ok (.invokestatic 63, 3) := by decide +kernel
theorem dX10_figure_31 : decode cX10_figure 31 = .ok (.ifCond .ne 6, 3) := by decide +kernel
theorem dX10_figure_34 : decode cX10_figure 34 = .ok (.bipush (-9), 2) := by decide +kernel
theorem dX10_figure_36 : decode cX10_figure 36 = .ok (.ireturn, 1) := by decide +kernel
theorem dX10_figure_37 : decode cX10_figure 37 = .ok (.aload_n 0, 1) := by decide +kernel
theorem dX10_figure_38 : decode cX10_figure 38 = .ok (.dup, 1) := by decide +kernel
theorem dX10_figure_39 : decode cX10_figure 39 = .ok (.getfield 72, 3) := by decide +kernel
theorem dX10_figure_42 : decode cX10_figure 42 = .ok (.iconst 1, 1) := by decide +kernel
theorem dX10_figure_43 : decode cX10_figure 43 = .ok (.iadd, 1) := by decide +kernel
theorem dX10_figure_44 : decode cX10_figure 44 = .ok (.putfield 72, 3) := by decide +kernel
theorem dX10_figure_47 : decode cX10_figure 47 = .ok (.aload_n 0, 1) := by decide +kernel
theorem dX10_figure_48 : decode cX10_figure 48 = .ok (.getfield 7, 3) := by decide +kernel
theorem dX10_figure_51 : decode cX10_figure 51 = .ok (.aload_n 0, 1) := by decide +kernel
theorem dX10_figure_52 : decode cX10_figure 52 = .ok (.getfield 72, 3) := by decide +kernel
theorem dX10_figure_55 : decode cX10_figure 55 = .ok (.iconst 1, 1) := by decide +kernel
theorem dX10_figure_56 : decode cX10_figure 56 = .ok (.isub, 1) := by decide +kernel
theorem dX10_figure_57 : decode cX10_figure 57 = .ok (.iaload, 1) := by decide +kernel
theorem dX10_figure_58 : decode cX10_figure 58 = .ok (.bipush 48, 2) := by decide +kernel
theorem dX10_figure_60 : decode cX10_figure 60 = .ok (.isub, 1) := by decide +kernel
theorem dX10_figure_61 : decode cX10_figure 61 = .ok (.ireturn, 1) := by decide +kernel
set_option maxRecDepth 20000 in
theorem ggX10_readLine_X10_figure : GoodIn wsX10_readLine wsX10_figure := goodIn_r _ [11, 1, 3, 4, 12, 13, 10, 14, 15, 16, 17, 18, 19, 20, 21, 22, 23, 24, 25, 26, 27, 28, 29, 30, 31, 32, 33, 34, 35, 36, 37, 38, 39, 40, 41, 42, 43, 44, 45] (by decide +kernel) (by decide +kernel)
set_option maxRecDepth 20000 in
theorem gX10_readLine_X10_figure : GoodIn wsX10_readLine (wsV RX10 78 RX10 yX10_figure wsX10_figure) := goodIn_app (goodIn_of _ (by decide +kernel)) ggX10_readLine_X10_figure
theorem dX10_readLine_0 : decode cX10_readLine 0 = .ok (.aload_n 0, 1) := by decide +kernel
theorem dX10_readLine_1 : decode cX10_readLine 1 = .ok (.iconst 0, 1) := by decide +kernel
theorem dX10_readLine_2 : decode cX10_readLine 2 = .ok (.putfield 72, 3) := by decide +kernel
theorem dX10_readLine_5 : decode cX10_readLine 5 = .ok (.aload_n 0, 1) := by decide +kernel
theorem dX10_readLine_6 : decode cX10_readLine 6 = .ok (.iconst 0, 1) := by decide +kernel
theorem dX10_readLine_7 : decode cX10_readLine 7 = .ok (.putfield 75, 3) := by decide +kernel
theorem dX10_readLine_10 : decode cX10_readLine 10 = .ok (.aload_n 0, 1) := by decide +kernel
theorem dX10_readLine_11 : decode cX10_readLine 11 = .ok (.getfield 69, 3) := by decide +kernel
theorem dX10_readLine_14 : decode cX10_readLine 14 = .ok (.ifCond .eq 14, 3) := by decide +kernel
theorem dX10_readLine_17 : decode cX10_readLine 17 = .ok (.aload_n 0, 1) := by decide +kernel
theorem dX10_readLine_18 : decode cX10_readLine 18 = .ok (.getfield 7, 3) := by decide +kernel
theorem dX10_readLine_21 : decode cX10_readLine 21 = .ok (.iconst 0, 1) := by decide +kernel
theorem dX10_readLine_22 : decode cX10_readLine 22 = .ok (.iaload, 1) := by decide +kernel
theorem dX10_readLine_23 : decode cX10_readLine 23 = .ok (.bipush 65, 2) := by decide +kernel
theorem dX10_readLine_25 : decode cX10_readLine 25 = .ok (.if_icmp .eq 5, 3) := by decide +kernel
theorem dX10_readLine_28 : decode cX10_readLine 28 = .ok (.iconst 0, 1) := by decide +kernel
theorem dX10_readLine_29 : decode cX10_readLine 29 = .ok (.ireturn, 1) := by decide +kernel
theorem dX10_readLine_30 : decode cX10_readLine 30 = .ok (.aload_n 0, 1) := by decide +kernel
theorem dX10_readLine_31 : decode cX10_readLine 31 = .ok (.iconst 1, 1) := by decide +kernel
theorem dX10_readLine_32 : decode cX10_readLine 32 = .ok (.putfield 72, 3) := by decide +kernel
theorem dX10_readLine_35 : decode cX10_readLine 35 = .ok (.iconst 0, 1) := by decide +kernel
theorem dX10_readLine_36 : decode cX10_readLine 36 = .ok (.istore_n 1, 1) := by decide +kernel
theorem dX10_readLine_37 : decode cX10_readLine 37 = .ok (.iload_n 1, 1) := by decide +kernel
theorem dX10_readLine_38 : decode cX10_readLine 38 = .ok (.iconst 5, 1) := by decide +kernel
theorem dX10_readLine_39 : decode cX10_readLine 39 = .ok (.if_icmp .ge 58, 3) := by decide +kernel
theorem dX10_readLine_42 : decode cX10_readLine 42 = .ok (.aload_n 0, 1) := by decide +kernel
theorem dX10_readLine_43 : decode cX10_readLine 43 = .ok (.iload_n 1, 1) := by decide +kernel
theorem dX10_readLine_44 : decode cX10_readLine 44 = .ok (.ifCond .ne 7, 3) := by decide +kernel
theorem dX10_readLine_47 : decode cX10_readLine 47 = .ok (.iconst 2, 1) := by decide +kernel
theorem dX10_readLine_48 : decode cX10_readLine 48 = .ok (.goto 4, 3) := by decide +kernel
theorem dX10_readLine_51 : decode cX10_readLine 51 = .ok (.iconst 0, 1) := by decide +kernel
theorem dX10_readLine_52 : decode cX10_readLine 52 = .ok (.bipush 9, 2) := by decide +kernel
theorem dX10_readLine_54 : decode cX10_readLine 54 = .ok (.invokevirtual 78, 3) := by decide +kernel
theorem dX10_readLine_57 : decode cX10_readLine 57 = .ok (.istore_n 2, 1) := by decide +kernel
theorem dX10_readLine_58 : decode cX10_readLine 58 = .ok (.iload_n 2, 1) := by decide +kernel
theorem dX10_readLine_59 : decode cX10_readLine 59 = .ok (.bipush (-9), 2) := by decide +kernel
theorem dX10_readLine_61 : decode cX10_readLine 61 = .ok (.if_icmp .ne 8, 3) := by decide +kernel
theorem dX10_readLine_64 : decode cX10_readLine 64 = .ok (.aload_n 0, 1) := by decide +kernel
theorem dX10_readLine_65 : decode cX10_readLine 65 = .ok (.getfield 72, 3) := by decide +kernel
theorem dX10_readLine_68 : decode cX10_readLine 68 = .ok (.ireturn, 1) := by decide +kernel
theorem dX10_readLine_69 : decode cX10_readLine 69 = .ok (.aload_n 0, 1) := by decide +kernel
theorem dX10_readLine_70 : decode cX10_readLine 70 = .ok (.getfield 29, 3) := by decide +kernel
theorem dX10_readLine_73 : decode cX10_readLine 73 = .ok (.iload_n 1, 1) := by decide +kernel
theorem dX10_readLine_74 : decode cX10_readLine 74 = .ok (.iload_n 1, 1) := by decide +kernel
theorem dX10_readLine_75 : decode cX10_readLine 75 = .ok (.ifCond .eq 8, 3) := by decide +kernel
theorem dX10_readLine_78 : decode cX10_readLine 78 = .ok (.iload_n 1, 1) := by decide +kernel
theorem dX10_readLine_79 : decode cX10_readLine 79 = .ok (.iconst 2, 1) := by decide +kernel
theorem dX10_readLine_80 : decode cX10_readLine 80 = .ok (.if_icmp .ne 7, 3) := by decide +kernel
theorem dX10_readLine_83 : decode cX10_readLine 83 = .ok (.iload_n 2, 1) := by decide +kernel
theorem dX10_readLine_84 : decode cX10_readLine 84 = .ok (.goto 6, 3) := by decide +kernel
theorem dX10_readLine_87 : decode cX10_readLine 87 = .ok (.iload_n 2, 1) := by decide +kernel
theorem dX10_readLine_88 : decode cX10_readLine 88 = .ok (.iconst 5, 1) := by decide +kernel
theorem dX10_readLine_89 : decode cX10_readLine 89 = .ok (.isub, 1) := by decide +kernel
theorem dX10_readLine_90 : decode cX10_readLine 90 = .ok (.iastore, 1) := by decide +kernel
theorem dX10_readLine_91 : decode cX10_readLine 91 = .ok (.iinc 1 1, 3) := by decide +kernel
theorem dX10_readLine_94 : decode cX10_readLine 94 = .ok (.goto (-57), 3) := by decide +kernel
theorem dX10_readLine_97 : decode cX10_readLine 97 = .ok (.aload_n 0, 1) := by decide +kernel
theorem dX10_readLine_98 : decode cX10_readLine 98 = .ok (.getfield 72, 3) := by decide +kernel
theorem dX10_readLine_101 : decode cX10_readLine 101 = .ok (.aload_n 0, 1) := by decide +kernel
theorem dX10_readLine_102 : decode cX10_readLine 102 = .ok (.getfield 69, 3) := by decide +kernel
theorem dX10_readLine_105 : decode cX10_readLine 105 = .ok (.if_icmp .ge 108, 3) := by decide +kernel
theorem dX10_readLine_108 : decode cX10_readLine 108 = .ok (.aload_n 0, 1) := by decide +kernel
theorem dX10_readLine_109 : decode cX10_readLine 109 = .ok (.getfield 7, 3) := by decide +kernel
theorem dX10_readLine_112 : decode cX10_readLine 112 = .ok (.aload_n 0, 1) := by decide +kernel
theorem dX10_readLine_113 : decode cX10_readLine 113 = .ok (.getfield 72, 3) := by decide +kernel
theorem dX10_readLine_116 : decode cX10_readLine 116 = .ok (.iaload, 1) := by decide +kernel
theorem dX10_readLine_117 : decode cX10_readLine 117 = .ok (.bipush 76, 2) := by decide +kernel
theorem dX10_readLine_119 : decode cX10_readLine 119 = .ok (.if_icmp .ne 12, 3) := by decide +kernel
theorem dX10_readLine_122 : decode cX10_readLine 122 = .ok (.aload_n 0, 1) := by decide +kernel
theorem dX10_readLine_123 : decode cX10_readLine 123 = .ok (.getfield 75, 3) := by decide +kernel
theorem dX10_readLine_126 : decode cX10_readLine 126 = .ok (.bipush 8, 2) := by decide +kernel
theorem dX10_readLine_128 : decode cX10_readLine 128 = .ok (.if_icmp .ne 8, 3) := by decide +kernel
theorem dX10_readLine_131 : decode cX10_readLine 131 = .ok (.aload_n 0, 1) := by decide +kernel
theorem dX10_readLine_132 : decode cX10_readLine 132 = .ok (.getfield 72, 3) := by decide +kernel
theorem dX10_readLine_135 : decode cX10_readLine 135 = .ok (.ireturn, 1) := by decide +kernel
theorem dX10_readLine_136 : decode cX10_readLine 136 = .ok (.aload_n 0, 1) := by decide +kernel
theorem dX10_readLine_137 : decode cX10_readLine 137 = .ok (.dup, 1) := by decide +kernel
theorem dX10_readLine_138 : decode cX10_readLine 138 = .ok (.getfield 72, 3) := by decide +kernel
theorem dX10_readLine_141 : decode cX10_readLine 141 = .ok (.iconst 1, 1) := by decide +kernel
theorem dX10_readLine_142 : decode cX10_readLine 142 = .ok (.iadd, 1) := by decide +kernel
theorem dX10_readLine_143 : decode cX10_readLine 143 = .ok (.putfield 72, 3) := by decide +kernel
theorem dX10_readLine_146 : decode cX10_readLine 146 = .ok (.iconst 0, 1) := by decide +kernel
theorem dX10_readLine_147 : decode cX10_readLine 147 = .ok (.istore_n 1, 1) := by decide +kernel
theorem dX10_readLine_148 : decode cX10_readLine 148 = .ok (.iload_n 1, 1) := by decide +kernel
theorem dX10_readLine_149 : decode cX10_readLine 149 = .ok (.iconst 3, 1) := by decide +kernel
theorem dX10_readLine_150 : decode cX10_readLine 150 = .ok (.if_icmp .ge 50, 3) := by decide +kernel
theorem dX10_readLine_153 : decode cX10_readLine 153 = .ok (.aload_n 0, 1) := by decide +kernel
theorem dX10_readLine_154 : decode cX10_readLine 154 = .ok (.iconst 0, 1) := by decide +kernel
theorem dX10_readLine_155 : decode cX10_readLine 155 = .ok (.iload_n 1, 1) := by decide +kernel
theorem dX10_readLine_156 : decode cX10_readLine 156 = .ok (.ifCond .ne 7, 3) := by decide +kernel
theorem dX10_readLine_159 : decode cX10_readLine 159 = .ok (.iconst 3, 1) := by decide +kernel
theorem dX10_readLine_160 : decode cX10_readLine 160 = .ok (.goto 5, 3) := by decide +kernel
theorem dX10_readLine_163 : decode cX10_readLine 163 = .ok (.bipush 9, 2) := by decide +kernel
theorem dX10_readLine_165 : decode cX10_readLine 165 = .ok (.invokevirtual 78, 3) := by decide +kernel
theorem dX10_readLine_168 : decode cX10_readLine 168 = .ok (.istore_n 2, 1) := by decide +kernel
theorem dX10_readLine_169 : decode cX10_readLine 169 = .ok (.iload_n 2, 1) := by decide +kernel
theorem dX10_readLine_170 : decode cX10_readLine 170 = .ok (.bipush (-9), 2) := by decide +kernel
theorem dX10_readLine_172 : decode cX10_readLine 172 = .ok (.if_icmp .ne 8, 3) := by decide +kernel
theorem dX10_readLine_175 : decode cX10_readLine 175 = .ok (.aload_n 0, 1) := by decide +kernel
theorem dX10_readLine_176 : decode cX10_readLine 176 = .ok (.getfield 72, 3) := by decide +kernel
theorem dX10_readLine_179 : decode cX10_readLine 179 = .ok (.ireturn, 1) := by decide +kernel
theorem dX10_readLine_180 : decode cX10_readLine 180 = .ok (.aload_n 0, 1) := by decide +kernel
theorem dX10_readLine_181 : decode cX10_readLine 181 = .ok (.getfield 32, 3) := by decide +kernel
theorem dX10_readLine_184 : decode cX10_readLine 184 = .ok (.iconst 3, 1) := by decide +kernel
theorem dX10_readLine_185 : decode cX10_readLine 185 = .ok (.aload_n 0, 1) := by decide +kernel
theorem dX10_readLine_186 : decode cX10_readLine 186 = .ok (.getfield 75, 3) := by decide +kernel
theorem dX10_readLine_189 : decode cX10_readLine 189 = .ok (.imul, 1) := by decide +kernel
theorem dX10_readLine_190 : decode cX10_readLine 190 = .ok (.iload_n 1, 1) := by decide +kernel
theorem dX10_readLine_191 : decode cX10_readLine 191 = .ok (.iadd, 1) := by decide +kernel
theorem dX10_readLine_192 : decode cX10_readLine 192 = .ok (.iload_n 2, 1) := by decide +kernel
theorem dX10_readLine_193 : decode cX10_readLine 193 = .ok (.iastore, 1) := by decide +kernel
theorem dX10_readLine_194 : decode cX10_readLine 194 = .ok (.iinc 1 1, 3) := by decide +kernel
theorem dX10_readLine_197 : decode cX10_readLine 197 = .ok (.goto (-49), 3) := by decide +kernel
theorem dX10_readLine_200 : decode cX10_readLine 200 = .ok (.aload_n 0, 1) := by decide +kernel
theorem dX10_readLine_201 : decode cX10_readLine 201 = .ok (.dup, 1) := by decide +kernel
theorem dX10_readLine_202 : decode cX10_readLine 202 = .ok (.getfield 75, 3) := by decide +kernel
theorem dX10_readLine_205 : decode cX10_readLine 205 = .ok (.iconst 1, 1) := by decide +kernel
theorem dX10_readLine_206 : decode cX10_readLine 206 = .ok (.iadd, 1) := by decide +kernel
theorem dX10_readLine_207 : decode cX10_readLine 207 = .ok (.putfield 75, 3) := by decide +kernel
theorem dX10_readLine_210 : decode cX10_readLine 210 = .ok (.goto (-113), 3) := by decide +kernel
theorem dX10_readLine_213 : decode cX10_readLine 213 = .ok (.bipush (-9), 2) := by decide +kernel
theorem dX10_readLine_215 : decode cX10_readLine 215 = .ok (.ireturn, 1) := by decide +kernel
set_option maxRecDepth 20000 in
theorem ggX10_fault_X10_readLine : GoodIn wsX10_fault wsX10_readLine := goodIn_r _ [6, 7, 8, 9, 10, 11, 12, 13, 14, 15, 5, 16, 17, 18, 19, 20, 21, 22, 23, 24, 25, 26, 27, 28, 29, 30, 31, 32, 33, 34, 35, 36, 37, 38, 39, 40, 41, 42, 43, 44, 45, 46, 47, 48, 49, 50] (by decide +kernel) (by decide +kernel)
set_option maxRecDepth 20000 in
theorem gX10_fault_X10_readLine : GoodIn wsX10_fault (wsV RX10 82 RX10 yX10_readLine wsX10_readLine) := goodIn_app (goodIn_of _ (by decide +kernel)) ggX10_fault_X10_readLine
theorem dX10_fault_0 : decode cX10_fault 0 = .ok (.aload_n 0, 1) := by decide +kernel
theorem dX10_fault_1 : decode cX10_fault 1 = .ok (.iconst 0, 1) := by decide +kernel
theorem dX10_fault_2 : decode cX10_fault 2 = .ok (.putfield 57, 3) := by decide +kernel
theorem dX10_fault_5 : decode cX10_fault 5 = .ok (.aload_n 0, 1) := by decide +kernel
theorem dX10_fault_6 : decode cX10_fault 6 = .ok (.invokevirtual 82, 3) := by decide +kernel
theorem dX10_fault_9 : decode cX10_fault 9 = .ok (.ireturn, 1) := by decide +kernel
set_option maxRecDepth 20000 in
theorem ggX10_line_X10_readLine : GoodIn wsX10_line wsX10_readLine := goodIn_r _ [19, 20, 6, 21, 22, 2, 9, 23, 24, 25, 18, 26, 27, 28, 29, 30, 31, 32, 33, 34, 35, 36, 37, 38, 39, 40, 41, 42, 43, 44, 45, 46, 47, 48, 49, 50, 51, 52, 53, 54, 55, 56, 57, 58, 59, 60] (by decide +kernel) (by decide +kernel)
set_option maxRecDepth 20000 in
theorem gX10_line_X10_readLine : GoodIn wsX10_line (wsV RX10 82 RX10 yX10_readLine wsX10_readLine) := goodIn_app (goodIn_of _ (by decide +kernel)) ggX10_line_X10_readLine
theorem dX10_line_0 : decode cX10_line 0 = .ok (.aload_n 0, 1) := by decide +kernel
theorem dX10_line_1 : decode cX10_line 1 = .ok (.iconst 0, 1) := by decide +kernel
theorem dX10_line_2 : decode cX10_line 2 = .ok (.putfield 57, 3) := by decide +kernel
theorem dX10_line_5 : decode cX10_line 5 = .ok (.aload_n 0, 1) := by decide +kernel
theorem dX10_line_6 : decode cX10_line 6 = .ok (.invokevirtual 82, 3) := by decide +kernel
theorem dX10_line_9 : decode cX10_line 9 = .ok (.bipush (-9), 2) := by decide +kernel
theorem dX10_line_11 : decode cX10_line 11 = .ok (.if_icmp .eq 6, 3) := by decide +kernel
theorem dX10_line_14 : decode cX10_line 14 = .ok (.bipush (-3), 2) := by decide +kernel
theorem dX10_line_16 : decode cX10_line 16 = .ok (.ireturn, 1) := by decide +kernel
theorem dX10_line_17 : decode cX10_line 17 = .ok (.aload_n 0, 1) := by decide +kernel
theorem dX10_line_18 : decode cX10_line 18 = .ok (.aload_n 0, 1) := by decide +kernel
theorem dX10_line_19 : decode cX10_line 19 = .ok (.getfield 29, 3) := by decide +kernel
theorem dX10_line_22 : decode cX10_line 22 = .ok (.iconst 0, 1) := by decide +kernel
theorem dX10_line_23 : decode cX10_line 23 = .ok (.iaload, 1) := by decide +kernel
theorem dX10_line_24 : decode cX10_line 24 = .ok (.putfield 13, 3) := by decide +kernel
theorem dX10_line_27 : decode cX10_line 27 = .ok (.aload_n 0, 1) := by decide +kernel
theorem dX10_line_28 : decode cX10_line 28 = .ok (.aload_n 0, 1) := by decide +kernel
theorem dX10_line_29 : decode cX10_line 29 = .ok (.getfield 29, 3) := by decide +kernel
theorem dX10_line_32 : decode cX10_line 32 = .ok (.iconst 1, 1) := by decide +kernel
theorem dX10_line_33 : decode cX10_line 33 = .ok (.iaload, 1) := by decide +kernel
theorem dX10_line_34 : decode cX10_line 34 = .ok (.putfield 86, 3) := by decide +kernel
theorem dX10_line_37 : decode cX10_line 37 = .ok (.aload_n 0, 1) := by decide +kernel
theorem dX10_line_38 : decode cX10_line 38 = .ok (.getfield 17, 3) := by decide +kernel
theorem dX10_line_41 : decode cX10_line 41 = .ok (.iconst 0, 1) := by decide +kernel
theorem dX10_line_42 : decode cX10_line 42 = .ok (.aload_n 0, 1) := by decide +kernel
theorem dX10_line_43 : decode cX10_line 43 = .ok (.getfield 29, 3) := by decide +kernel
theorem dX10_line_46 : decode cX10_line 46 = .ok (.iconst 3, 1) := by decide +kernel
theorem dX10_line_47 : decode cX10_line 47 = .ok (.iaload, 1) := by decide +kernel
theorem dX10_line_48 : decode cX10_line 48 = .ok (.iastore, 1) := by decide +kernel
theorem dX10_line_49 : decode cX10_line 49 = .ok (.aload_n 0, 1) := by decide +kernel
theorem dX10_line_50 : decode cX10_line 50 = .ok (.getfield 17, 3) := by decide +kernel
theorem dX10_line_53 : decode cX10_line 53 = .ok (.iconst 1, 1) := by decide +kernel
theorem dX10_line_54 : decode cX10_line 54 = .ok (.aload_n 0, 1) := by decide +kernel
theorem dX10_line_55 : decode cX10_line 55 = .ok (.getfield 29, 3) := by decide +kernel
theorem dX10_line_58 : decode cX10_line 58 = .ok (.iconst 4, 1) := by decide +kernel
theorem dX10_line_59 : decode cX10_line 59 = .ok (.iaload, 1) := by decide +kernel
theorem dX10_line_60 : decode cX10_line 60 = .ok (.iastore, 1) := by decide +kernel
theorem dX10_line_61 : decode cX10_line 61 = .ok (.aload_n 0, 1) := by decide +kernel
theorem dX10_line_62 : decode cX10_line 62 = .ok (.aload_n 0, 1) := by decide +kernel
theorem dX10_line_63 : decode cX10_line 63 = .ok (.getfield 75, 3) := by decide +kernel
theorem dX10_line_66 : decode cX10_line 66 = .ok (.putfield 60, 3) := by decide +kernel
theorem dX10_line_69 : decode cX10_line 69 = .ok (.iconst 0, 1) := by decide +kernel
theorem dX10_line_70 : decode cX10_line 70 = .ok (.istore_n 1, 1) := by decide +kernel
theorem dX10_line_71 : decode cX10_line 71 = .ok (.iload_n 1, 1) := by decide +kernel
theorem dX10_line_72 : decode cX10_line 72 = .ok (.aload_n 0, 1) := by decide +kernel
theorem dX10_line_73 : decode cX10_line 73 = .ok (.getfield 60, 3) := by decide +kernel
theorem dX10_line_76 : decode cX10_line 76 = .ok (.if_icmp .ge 55, 3) := by decide +kernel
theorem dX10_line_79 : decode cX10_line 79 = .ok (.aload_n 0, 1) := by decide +kernel
theorem dX10_line_80 : decode cX10_line 80 = .ok (.getfield 20, 3) := by decide +kernel
theorem dX10_line_83 : decode cX10_line 83 = .ok (.iload_n 1, 1) := by decide +kernel
theorem dX10_line_84 : decode cX10_line 84 = .ok (.aload_n 0, 1) := by decide +kernel
theorem dX10_line_85 : decode cX10_line 85 = .ok (.getfield 32, 3) := by decide +kernel
theorem dX10_line_88 : decode cX10_line 88 = .ok (.iconst 3, 1) := by decide +kernel
theorem dX10_line_89 : decode cX10_line 89 = .ok (.iload_n 1, 1) := by decide +kernel
theorem dX10_line_90 : decode cX10_line 90 = .ok (.imul, 1) := by decide +kernel
theorem dX10_line_91 : decode cX10_line 91 = .ok (.iaload, 1) := by decide +kernel
theorem dX10_line_92 : decode cX10_line 92 = .ok (.iastore, 1) := by decide +kernel
theorem dX10_line_93 : decode cX10_line 93 = .ok (.aload_n 0, 1) := by decide +kernel
theorem dX10_line_94 : decode cX10_line 94 = .ok (.getfield 23, 3) := by decide +kernel
theorem dX10_line_97 : decode cX10_line 97 = .ok (.iload_n 1, 1) := by decide +kernel
theorem dX10_line_98 : decode cX10_line 98 = .ok (.aload_n 0, 1) := by decide +kernel
theorem dX10_line_99 : decode cX10_line 99 = .ok (.getfield 32, 3) := by decide +kernel
theorem dX10_line_102 : decode cX10_line 102 = .ok (.iconst 3, 1) := by decide +kernel
theorem dX10_line_103 : decode cX10_line 103 = .ok (.iload_n 1, 1) := by decide +kernel
theorem dX10_line_104 : decode cX10_line 104 = .ok (.imul, 1) := by decide +kernel
theorem dX10_line_105 : decode cX10_line 105 = .ok (.iconst 1, 1) := by decide +kernel
theorem dX10_line_106 : decode cX10_line 106 = .ok (.iadd, 1) := by decide +kernel
theorem dX10_line_107 : decode cX10_line 107 = .ok (.iaload, 1) := by decide +kernel
theorem dX10_line_108 : decode cX10_line 108 = .ok (.iastore, 1) := by decide +kernel
theorem dX10_line_109 : decode cX10_line 109 = .ok (.aload_n 0, 1) := by decide +kernel
theorem dX10_line_110 : decode cX10_line 110 = .ok (.getfield 26, 3) := by decide +kernel
theorem dX10_line_113 : decode cX10_line 113 = .ok (.iload_n 1, 1) := by decide +kernel
theorem dX10_line_114 : decode cX10_line 114 = .ok (.aload_n 0, 1) := by decide +kernel
theorem dX10_line_115 : decode cX10_line 115 = .ok (.getfield 32, 3) := by decide +kernel
theorem dX10_line_118 : decode cX10_line 118 = .ok (.iconst 3, 1) := by decide +kernel
theorem dX10_line_119 : decode cX10_line 119 = .ok (.iload_n 1, 1) := by decide +kernel
theorem dX10_line_120 : decode cX10_line 120 = .ok (.imul, 1) := by decide +kernel
theorem dX10_line_121 : decode cX10_line 121 = .ok (.iconst 2, 1) := by decide +kernel
theorem dX10_line_122 : decode cX10_line 122 = .ok (.iadd, 1) := by decide +kernel
theorem dX10_line_123 : decode cX10_line 123 = .ok (.iaload, 1) := by decide +kernel
theorem dX10_line_124 : decode cX10_line 124 = .ok (.iastore, 1) := by decide +kernel
theorem dX10_line_125 : decode cX10_line 125 = .ok (.iinc 1 1, 3) := by decide +kernel
theorem dX10_line_128 : decode cX10_line 128 = .ok (.goto (-57), 3) := by decide +kernel
theorem dX10_line_131 : decode cX10_line 131 = .ok (.iconst 0, 1) := by decide +kernel
theorem dX10_line_132 : decode cX10_line 132 = .ok (.istore_n 1, 1) := by decide +kernel
theorem dX10_line_133 : decode cX10_line 133 = .ok (.iload_n 1, 1) := by decide +kernel
theorem dX10_line_134 : decode cX10_line 134 = .ok (.bipush 16, 2) := by decide +kernel
theorem dX10_line_136 : decode cX10_line 136 = .ok (.if_icmp .ge 16, 3) := by decide +kernel
theorem dX10_line_139 : decode cX10_line 139 = .ok (.aload_n 0, 1) := by decide +kernel
theorem dX10_line_140 : decode cX10_line 140 = .ok (.getfield 35, 3) := by decide +kernel
theorem dX10_line_143 : decode cX10_line 143 = .ok (.iload_n 1, 1) := by decide +kernel
theorem dX10_line_144 : decode cX10_line 144 = .ok (.iconst 0, 1) := by decide +kernel
theorem dX10_line_145 : decode cX10_line 145 = .ok (.iastore, 1) := by decide +kernel
theorem dX10_line_146 : decode cX10_line 146 = .ok (.iinc 1 1, 3) := by decide +kernel
theorem dX10_line_149 : decode cX10_line 149 = .ok (.goto (-16), 3) := by decide +kernel
theorem dX10_line_152 : decode cX10_line 152 = .ok (.aload_n 0, 1) := by decide +kernel
theorem dX10_line_153 : decode cX10_line 153 = .ok (.getfield 35, 3) := by decide +kernel
theorem dX10_line_156 : decode cX10_line 156 = .ok (.iconst 1, 1) := by decide +kernel
theorem dX10_line_157 : decode cX10_line 157 = .ok (.aload_n 0, 1) := by decide +kernel
theorem dX10_line_158 : decode cX10_line 158 = .ok (.getfield 13, 3) := by decide +kernel
theorem dX10_line_161 : decode cX10_line 161 = .ok (.iastore, 1) := by decide +kernel
theorem dX10_line_162 : decode cX10_line 162 = .ok (.aload_n 0, 1) := by decide +kernel
theorem dX10_line_163 : decode cX10_line 163 = .ok (.getfield 35, 3) := by decide +kernel
theorem dX10_line_166 : decode cX10_line 166 = .ok (.bipush 6, 2) := by decide +kernel
theorem dX10_line_168 : decode cX10_line 168 = .ok (.aload_n 0, 1) := by decide +kernel
theorem dX10_line_169 : decode cX10_line 169 = .ok (.getfield 86, 3) := by decide +kernel
theorem dX10_line_172 : decode cX10_line 172 = .ok (.iastore, 1) := by decide +kernel
theorem dX10_line_173 : decode cX10_line 173 = .ok (.aload_n 0, 1) := by decide +kernel
theorem dX10_line_174 : decode cX10_line 174 = .ok (.getfield 35, 3) := by decide +kernel
theorem dX10_line_177 : decode cX10_line 177 = .ok (.bipush 7, 2) := by decide +kernel
theorem dX10_line_179 : decode cX10_line 179 = .ok (.aload_n 0, 1) := by decide +kernel
theorem dX10_line_180 : decode cX10_line 180 = .ok (.getfield 29, 3) := by decide +kernel
theorem dX10_line_183 : decode cX10_line 183 = .ok (.iconst 2, 1) := by decide +kernel
theorem dX10_line_184 : decode cX10_line 184 = .ok (.iaload, 1) := by decide +kernel
theorem dX10_line_185 : decode cX10_line 185 = .ok (.iastore, 1) := by decide +kernel
theorem dX10_line_186 : decode cX10_line 186 = .ok (.aload_n 0, 1) := by decide +kernel
theorem dX10_line_187 : decode cX10_line 187 = .ok (.iconst 0, 1) := by decide +kernel
theorem dX10_line_188 : decode cX10_line 188 = .ok (.putfield 89, 3) := by decide +kernel
theorem dX10_line_191 : decode cX10_line 191 = .ok (.aload_n 0, 1) := by decide +kernel
theorem dX10_line_192 : decode cX10_line 192 = .ok (.getfield 44, 3) := by decide +kernel
theorem dX10_line_195 : decode cX10_line 195 = .ok (.iconst 0, 1) := by decide +kernel
theorem dX10_line_196 : decode cX10_line 196 = .ok (.iconst 0, 1) := by decide +kernel
theorem dX10_line_197 : decode cX10_line 197 = .ok (.bastore, 1) := by decide +kernel
theorem dX10_line_198 : decode cX10_line 198 = .ok (.aload_n 0, 1) := by decide +kernel
theorem dX10_line_199 : decode cX10_line 199 = .ok (.getfield 44, 3) := by decide +kernel
theorem dX10_line_202 : decode cX10_line 202 = .ok (.iconst 1, 1) := by decide +kernel
theorem dX10_line_203 : decode cX10_line 203 = .ok (.iconst 0, 1) := by decide +kernel
theorem dX10_line_204 : decode cX10_line 204 = .ok (.bastore, 1) := by decide +kernel
theorem dX10_line_205 : decode cX10_line 205 = .ok (.aload_n 0, 1) := by decide +kernel
theorem dX10_line_206 : decode cX10_line 206 = .ok (.getfield 60, 3) := by decide +kernel
theorem dX10_line_209 : decode cX10_line 209 = .ok (.ireturn, 1) := by decide +kernel
theorem dX10_ground_0 : decode cX10_ground 0 = .ok (.iload_n 2, 1) := by decide +kernel
theorem dX10_ground_1 : decode cX10_ground 1 = .ok (.tableswitch 60 1 3 #[27, 42, 50], 27) := by decide +kernel
theorem dX10_ground_28 : decode cX10_ground 28 = .ok (.aload_n 0, 1) := by decide +kernel
theorem dX10_ground_29 : decode cX10_ground 29 = .ok (.getfield 23, 3) := by decide +kernel
theorem dX10_ground_32 : decode cX10_ground 32 = .ok (.iload_n 1, 1) := by decide +kernel
theorem dX10_ground_33 : decode cX10_ground 33 = .ok (.iaload, 1) := by decide +kernel
theorem dX10_ground_34 : decode cX10_ground 34 = .ok (.ineg, 1) := by decide +kernel
theorem dX10_ground_35 : decode cX10_ground 35 = .ok (.aload_n 0, 1) := by decide +kernel
theorem dX10_ground_36 : decode cX10_ground 36 = .ok (.getfield 23, 3) := by decide +kernel
theorem dX10_ground_39 : decode cX10_ground 39 = .ok (.iload_n 1, 1) := by decide +kernel
theorem dX10_ground_40 : decode cX10_ground 40 = .ok (.iaload, 1) := by decide +kernel
theorem dX10_ground_41 : decode cX10_ground 41 = .ok (.imul, 1) := by decide +kernel
theorem dX10_ground_42 : decode cX10_ground 42 = .ok (.ireturn, 1) := by decide +kernel
theorem dX10_ground_43 : decode cX10_ground 43 = .ok (.aload_n 0, 1) := by decide +kernel
theorem dX10_ground_44 : decode cX10_ground 44 = .ok (.getfield 23, 3) := by decide +kernel
theorem dX10_ground_47 : decode cX10_ground 47 = .ok (.iload_n 1, 1) := by decide +kernel
theorem dX10_ground_48 : decode cX10_ground 48 = .ok (.iaload, 1) := by decide +kernel
theorem dX10_ground_49 : decode cX10_ground 49 = .ok (.ineg, 1) := by decide +kernel
theorem dX10_ground_50 : decode cX10_ground 50 = .ok (.ireturn, 1) := by decide +kernel
theorem dX10_ground_51 : decode cX10_ground 51 = .ok (.bipush (-2), 2) := by decide +kernel
theorem dX10_ground_53 : decode cX10_ground 53 = .ok (.aload_n 0, 1) := by decide +kernel
theorem dX10_ground_54 : decode cX10_ground 54 = .ok (.getfield 23, 3) := by decide +kernel
theorem dX10_ground_57 : decode cX10_ground 57 = .ok (.iload_n 1, 1) := by decide +kernel
theorem dX10_ground_58 : decode cX10_ground 58 = .ok (.iaload, 1) := by decide +kernel
theorem dX10_ground_59 : decode cX10_ground 59 = .ok (.imul, 1) := by decide +kernel
theorem dX10_ground_60 : decode cX10_ground 60 = .ok (.ireturn, 1) := by decide +kernel
theorem dX10_ground_61 : decode cX10_ground 61 = .ok (.iconst 0, 1) := by decide +kernel
theorem dX10_ground_62 : decode cX10_ground 62 = .ok (.ireturn, 1) := by decide +kernel
set_option maxRecDepth 20000 in
theorem ggX10_errorOf_X10_ground : GoodIn wsX10_errorOf wsX10_ground := goodIn_r _ [8, 9, 10, 11, 12, 13, 14, 15, 16, 17, 18, 19, 20, 21, 22, 23, 24, 25, 26, 27, 28, 29, 30, 31, 32, 33, 34, 35, 36, 37, 38, 39, 40] (by decide +kernel) (by decide +kernel)
set_option maxRecDepth 20000 in
theorem gX10_errorOf_X10_ground : GoodIn wsX10_errorOf (wsV RX10 92 RX10 yX10_ground wsX10_ground) := goodIn_app (goodIn_of _ (by decide +kernel)) ggX10_errorOf_X10_ground
theorem dX10_errorOf_0 : decode cX10_errorOf 0 = .ok (.aload_n 0, 1) := by decide +kernel
theorem dX10_errorOf_1 : decode cX10_errorOf 1 = .ok (.getfield 35, 3) := by decide +kernel
theorem dX10_errorOf_4 : decode cX10_errorOf 4 = .ok (.bipush 6, 2) := by decide +kernel
theorem dX10_errorOf_6 : decode cX10_errorOf 6 = .ok (.iaload, 1) := by decide +kernel
theorem dX10_errorOf_7 : decode cX10_errorOf 7 = .ok (.aload_n 0, 1) := by decide +kernel
theorem dX10_errorOf_8 : decode cX10_errorOf 8 = .ok (.iload_n 1, 1) := by decide +kernel
theorem dX10_errorOf_9 : decode cX10_errorOf 9 = .ok (.aload_n 0, 1) := by decide +kernel
theorem dX10_errorOf_10 : decode cX10_errorOf 10 = .ok (.getfield 20, 3) := by decide +kernel
theorem dX10_errorOf_13 : decode cX10_errorOf 13 = .ok (.iload_n 1, 1) := by decide +kernel
theorem dX10_errorOf_14 : decode cX10_errorOf 14 = .ok (.iaload, 1) := by decide +kernel
theorem dX10_errorOf_15 : decode cX10_errorOf 15 = .ok (.invokevirtual 92, 3) := by decide +kernel
theorem dX10_errorOf_18 : decode cX10_errorOf 18 = .ok (.iadd, 1) := by decide +kernel
theorem dX10_errorOf_19 : decode cX10_errorOf 19 = .ok (.aload_n 0, 1) := by decide +kernel
theorem dX10_errorOf_20 : decode cX10_errorOf 20 = .ok (.getfield 17, 3) := by decide +kernel
theorem dX10_errorOf_23 : decode cX10_errorOf 23 = .ok (.iload_n 2, 1) := by decide +kernel
theorem dX10_errorOf_24 : decode cX10_errorOf 24 = .ok (.iaload, 1) := by decide +kernel
theorem dX10_errorOf_25 : decode cX10_errorOf 25 = .ok (.iadd, 1) := by decide +kernel
theorem dX10_errorOf_26 : decode cX10_errorOf 26 = .ok (.aload_n 0, 1) := by decide +kernel
theorem dX10_errorOf_27 : decode cX10_errorOf 27 = .ok (.getfield 35, 3) := by decide +kernel
theorem dX10_errorOf_30 : decode cX10_errorOf 30 = .ok (.bipush 7, 2) := by decide +kernel
theorem dX10_errorOf_32 : decode cX10_errorOf 32 = .ok (.iaload, 1) := by decide +kernel
theorem dX10_errorOf_33 : decode cX10_errorOf 33 = .ok (.isub, 1) := by decide +kernel
theorem dX10_errorOf_34 : decode cX10_errorOf 34 = .ok (.ireturn, 1) := by decide +kernel
set_option maxRecDepth 20000 in
theorem ggX10_sourceOf_X10_ground : GoodIn wsX10_sourceOf wsX10_ground := goodIn_r _ [8, 9, 10, 11, 12, 13, 14, 15, 16, 17, 18, 19, 20, 21, 22, 23, 24, 25, 26, 27, 28, 29, 30, 31, 32, 33, 34, 35, 36, 37, 38, 39, 40] (by decide +kernel) (by decide +kernel)
set_option maxRecDepth 20000 in
theorem gX10_sourceOf_X10_ground : GoodIn wsX10_sourceOf (wsV RX10 92 RX10 yX10_ground wsX10_ground) := goodIn_app (goodIn_of _ (by decide +kernel)) ggX10_sourceOf_X10_ground
theorem dX10_sourceOf_0 : decode cX10_sourceOf 0 = .ok (.iload_n 2, 1) := by decide +kernel
theorem dX10_sourceOf_1 : decode cX10_sourceOf 1 = .ok (.tableswitch 59 0 2 #[27, 35, 47], 27) := by decide +kernel
theorem dX10_sourceOf_28 : decode cX10_sourceOf 28 = .ok (.aload_n 0, 1) := by decide +kernel
theorem dX10_sourceOf_29 : decode cX10_sourceOf 29 = .ok (.getfield 35, 3) := by decide +kernel
theorem dX10_sourceOf_32 : decode cX10_sourceOf 32 = .ok (.bipush 6, 2) := by decide +kernel
theorem dX10_sourceOf_34 : decode cX10_sourceOf 34 = .ok (.iaload, 1) := by decide +kernel
theorem dX10_sourceOf_35 : decode cX10_sourceOf 35 = .ok (.ireturn, 1) := by decide +kernel
theorem dX10_sourceOf_36 : decode cX10_sourceOf 36 = .ok (.aload_n 0, 1) := by decide +kernel
theorem dX10_sourceOf_37 : decode cX10_sourceOf 37 = .ok (.iload_n 1, 1) := by decide +kernel
theorem dX10_sourceOf_38 : decode cX10_sourceOf 38 = .ok (.aload_n 0, 1) := by decide +kernel
theorem dX10_sourceOf_39 : decode cX10_sourceOf 39 = .ok (.getfield 20, 3) := by decide +kernel
theorem dX10_sourceOf_42 : decode cX10_sourceOf 42 = .ok (.iload_n 1, 1) := by decide +kernel
theorem dX10_sourceOf_43 : decode cX10_sourceOf 43 = .ok (.iaload, 1) := by decide +kernel
theorem dX10_sourceOf_44 : decode cX10_sourceOf 44 = .ok (.invokevirtual 92, 3) := by decide +kernel
theorem dX10_sourceOf_47 : decode cX10_sourceOf 47 = .ok (.ireturn, 1) := by decide +kernel
theorem dX10_sourceOf_48 : decode cX10_sourceOf 48 = .ok (.aload_n 0, 1) := by decide +kernel
theorem dX10_sourceOf_49 : decode cX10_sourceOf 49 = .ok (.getfield 17, 3) := by decide +kernel
theorem dX10_sourceOf_52 : decode cX10_sourceOf 52 = .ok (.aload_n 0, 1) := by decide +kernel
theorem dX10_sourceOf_53 : decode cX10_sourceOf 53 = .ok (.getfield 35, 3) := by decide +kernel
theorem dX10_sourceOf_56 : decode cX10_sourceOf 56 = .ok (.iconst 5, 1) := by decide +kernel
theorem dX10_sourceOf_57 : decode cX10_sourceOf 57 = .ok (.iaload, 1) := by decide +kernel
theorem dX10_sourceOf_58 : decode cX10_sourceOf 58 = .ok (.iaload, 1) := by decide +kernel
theorem dX10_sourceOf_59 : decode cX10_sourceOf 59 = .ok (.ireturn, 1) := by decide +kernel
theorem dX10_sourceOf_60 : decode cX10_sourceOf 60 = .ok (.aload_n 0, 1) := by decide +kernel
theorem dX10_sourceOf_61 : decode cX10_sourceOf 61 = .ok (.getfield 35, 3) := by decide +kernel
theorem dX10_sourceOf_64 : decode cX10_sourceOf 64 = .ok (.bipush 7, 2) := by decide +kernel
theorem dX10_sourceOf_66 : decode cX10_sourceOf 66 = .ok (.iaload, 1) := by decide +kernel
theorem dX10_sourceOf_67 : decode cX10_sourceOf 67 = .ok (.ineg, 1) := by decide +kernel
theorem dX10_sourceOf_68 : decode cX10_sourceOf 68 = .ok (.ireturn, 1) := by decide +kernel
theorem dX10_about_0 : decode cX10_about 0 = .ok (.aload_n 0, 1) := by decide +kernel
theorem dX10_about_1 : decode cX10_about 1 = .ok (.iconst 0, 1) := by decide +kernel
theorem dX10_about_2 : decode cX10_about 2 = .ok (.putfield 57, 3) := by decide +kernel
theorem dX10_about_5 : decode cX10_about 5 = .ok (.iload_n 1, 1) := by decide +kernel
theorem dX10_about_6 : decode cX10_about 6 = .ok (.tableswitch 139 0 14 #[74, 79, 84, 84, 84, 84, 84, 84, 93, 104, 112, 117, 122, 127, 127], 74) := by decide +kernel
theorem dX10_about_80 : decode cX10_about 80 = .ok (.aload_n 0, 1) := by decide +kernel
theorem dX10_about_81 : decode cX10_about 81 = .ok (.getfield 13, 3) := by decide +kernel
theorem dX10_about_84 : decode cX10_about 84 = .ok (.ireturn, 1) := by decide +kernel
theorem dX10_about_85 : decode cX10_about 85 = .ok (.aload_n 0, 1) := by decide +kernel
theorem dX10_about_86 : decode cX10_about 86 = .ok (.getfield 60, 3) := by decide +kernel
theorem dX10_about_89 : decode cX10_about 89 = .ok (.ireturn, 1) := by decide +kernel
theorem dX10_about_90 : decode cX10_about 90 = .ok (.aload_n 0, 1) := by decide +kernel
theorem dX10_about_91 : decode cX10_about 91 = .ok (.getfield 35, 3) := by decide +kernel
theorem dX10_about_94 : decode cX10_about 94 = .ok (.iload_n 1, 1) := by decide +kernel
theorem dX10_about_95 : decode cX10_about 95 = .ok (.iconst 2, 1) := by decide +kernel
theorem dX10_about_96 : decode cX10_about 96 = .ok (.isub, 1) := by decide +kernel
theorem dX10_about_97 : decode cX10_about 97 = .ok (.iaload, 1) := by decide +kernel
theorem dX10_about_98 : decode cX10_about 98 = .ok (.ireturn, 1) := by decide +kernel
theorem dX10_about_99 : decode cX10_about 99 = .ok (.aload_n 0, 1) := by decide +kernel
theorem dX10_about_100 : decode cX10_about 100 = .ok (.getfield 35, 3) := by decide +kernel
theorem dX10_about_103 : decode cX10_about 103 = .ok (.bipush 6, 2) := by decide +kernel
theorem dX10_about_105 : decode cX10_about 105 = .ok (.iaload, 1) := by decide +kernel
theorem dX10_about_106 : decode cX10_about 106 = .ok (.bipush 50, 2) := by decide +kernel
theorem dX10_about_108 : decode cX10_about 108 = .ok (.iadd, 1) := by decide +kernel
theorem dX10_about_109 : decode cX10_about 109 = .ok (.ireturn, 1) := by decide +kernel
theorem dX10_about_110 : decode cX10_about 110 = .ok (.aload_n 0, 1) := by decide +kernel
theorem dX10_about_111 : decode cX10_about 111 = .ok (.getfield 35, 3) := by decide +kernel
theorem dX10_about_114 : decode cX10_about 114 = .ok (.bipush 7, 2) := by decide +kernel
theorem dX10_about_116 : decode cX10_about 116 = .ok (.iaload, 1) := by decide +kernel
theorem dX10_about_117 : decode cX10_about 117 = .ok (.ireturn, 1) := by decide +kernel
theorem dX10_about_118 : decode cX10_about 118 = .ok (.aload_n 0, 1) := by decide +kernel
theorem dX10_about_119 : decode cX10_about 119 = .ok (.getfield 89, 3) := by decide +kernel
theorem dX10_about_122 : decode cX10_about 122 = .ok (.ireturn, 1) := by decide +kernel
theorem dX10_about_123 : decode cX10_about 123 = .ok (.aload_n 0, 1) := by decide +kernel
theorem dX10_about_124 : decode cX10_about 124 = .ok (.getfield 95, 3) := by decide +kernel
theorem dX10_about_127 : decode cX10_about 127 = .ok (.ireturn, 1) := by decide +kernel
theorem dX10_about_128 : decode cX10_about 128 = .ok (.aload_n 0, 1) := by decide +kernel
theorem dX10_about_129 : decode cX10_about 129 = .ok (.getfield 69, 3) := by decide +kernel
theorem dX10_about_132 : decode cX10_about 132 = .ok (.ireturn, 1) := by decide +kernel
theorem dX10_about_133 : decode cX10_about 133 = .ok (.aload_n 0, 1) := by decide +kernel
theorem dX10_about_134 : decode cX10_about 134 = .ok (.getfield 17, 3) := by decide +kernel
theorem dX10_about_137 : decode cX10_about 137 = .ok (.iload_n 1, 1) := by decide +kernel
theorem dX10_about_138 : decode cX10_about 138 = .ok (.bipush 13, 2) := by decide +kernel
theorem dX10_about_140 : decode cX10_about 140 = .ok (.isub, 1) := by decide +kernel
theorem dX10_about_141 : decode cX10_about 141 = .ok (.iaload, 1) := by decide +kernel
theorem dX10_about_142 : decode cX10_about 142 = .ok (.iconst 5, 1) := by decide +kernel
theorem dX10_about_143 : decode cX10_about 143 = .ok (.iadd, 1) := by decide +kernel
theorem dX10_about_144 : decode cX10_about 144 = .ok (.ireturn, 1) := by decide +kernel
theorem dX10_about_145 : decode cX10_about 145 = .ok (.bipush (-2), 2) := by decide +kernel
theorem dX10_about_147 : decode cX10_about 147 = .ok (.ireturn, 1) := by decide +kernel
set_option maxRecDepth 20000 in
theorem ggX10_stage_X10_noStage : GoodIn wsX10_stage wsX10_noStage := goodIn_r _ [10, 11, 12, 13, 9, 14, 15, 16, 17, 18, 19, 20, 21, 22, 23, 24, 25, 26, 27, 28, 29, 30, 31, 32, 33, 34, 35, 36, 37, 38, 39, 40, 41, 42, 43, 44, 45] (by decide +kernel) (by decide +kernel)
set_option maxRecDepth 20000 in
theorem gX10_stage_X10_noStage : GoodIn wsX10_stage (wsV RX10 98 RX10 yX10_noStage wsX10_noStage) := goodIn_app (goodIn_of _ (by decide +kernel)) ggX10_stage_X10_noStage
theorem dX10_stage_0 : decode cX10_stage 0 = .ok (.aload_n 0, 1) := by decide +kernel
theorem dX10_stage_1 : decode cX10_stage 1 = .ok (.iconst 0, 1) := by decide +kernel
theorem dX10_stage_2 : decode cX10_stage 2 = .ok (.putfield 57, 3) := by decide +kernel
theorem dX10_stage_5 : decode cX10_stage 5 = .ok (.aload_n 0, 1) := by decide +kernel
theorem dX10_stage_6 : decode cX10_stage 6 = .ok (.iload_n 1, 1) := by decide +kernel
theorem dX10_stage_7 : decode cX10_stage 7 = .ok (.invokevirtual 98, 3) := by decide +kernel
theorem dX10_stage_10 : decode cX10_stage 10 = .ok (.ifCond .eq 5, 3) := by decide +kernel
theorem dX10_stage_13 : decode cX10_stage 13 = .ok (.iconst (-1), 1) := by decide +kernel
theorem dX10_stage_14 : decode cX10_stage 14 = .ok (.ireturn, 1) := by decide +kernel
theorem dX10_stage_15 : decode cX10_stage 15 = .ok (.iload_n 2, 1) := by decide +kernel
theorem dX10_stage_16 : decode cX10_stage 16 = .ok (.tableswitch 97 0 4 #[36, 43, 50, 57, 86], 36) := by decide +kernel
theorem dX10_stage_52 : decode cX10_stage 52 = .ok (.aload_n 0, 1) := by decide +kernel
theorem dX10_stage_53 : decode cX10_stage 53 = .ok (.getfield 20, 3) := by decide +kernel
theorem dX10_stage_56 : decode cX10_stage 56 = .ok (.iload_n 1, 1) := by decide +kernel
theorem dX10_stage_57 : decode cX10_stage 57 = .ok (.iaload, 1) := by decide +kernel
theorem dX10_stage_58 : decode cX10_stage 58 = .ok (.ireturn, 1) := by decide +kernel
theorem dX10_stage_59 : decode cX10_stage 59 = .ok (.aload_n 0, 1) := by decide +kernel
theorem dX10_stage_60 : decode cX10_stage 60 = .ok (.getfield 23, 3) := by decide +kernel
theorem dX10_stage_63 : decode cX10_stage 63 = .ok (.iload_n 1, 1) := by decide +kernel
theorem dX10_stage_64 : decode cX10_stage 64 = .ok (.iaload, 1) := by decide +kernel
theorem dX10_stage_65 : decode cX10_stage 65 = .ok (.ireturn, 1) := by decide +kernel
theorem dX10_stage_66 : decode cX10_stage 66 = .ok (.aload_n 0, 1) := by decide +kernel
theorem dX10_stage_67 : decode cX10_stage 67 = .ok (.getfield 26, 3) := by decide +kernel
theorem dX10_stage_70 : decode cX10_stage 70 = .ok (.iload_n 1, 1) := by decide +kernel
theorem dX10_stage_71 : decode cX10_stage 71 = .ok (.iaload, 1) := by decide +kernel
theorem dX10_stage_72 : decode cX10_stage 72 = .ok (.ireturn, 1) := by decide +kernel
theorem dX10_stage_73 : decode cX10_stage 73 = .ok (.iload_n 1, 1) := by decide +kernel
theorem dX10_stage_74 : decode cX10_stage 74 = .ok (.aload_n 0, 1) := by decide +kernel
theorem dX10_stage_75 : decode cX10_stage 75 = .ok (.getfield 35, 3) := by decide +kernel
theorem dX10_stage_78 : decode cX10_stage 78 = .ok (.iconst 0, 1) := by decide +kernel
theorem dX10_stage_79 : decode cX10_stage 79 = .ok (.iaload, 1) := by decide +kernel
theorem dX10_stage_80 : decode cX10_stage 80 = .ok (.if_icmp .ge 19, 3) := by decide +kernel
theorem dX10_stage_83 : decode cX10_stage 83 = .ok (.aload_n 0, 1) := by decide +kernel
theorem dX10_stage_84 : decode cX10_stage 84 = .ok (.getfield 35, 3) := by decide +kernel
theorem dX10_stage_87 : decode cX10_stage 87 = .ok (.bipush 8, 2) := by decide +kernel
theorem dX10_stage_89 : decode cX10_stage 89 = .ok (.iload_n 1, 1) := by decide +kernel
theorem dX10_stage_90 : decode cX10_stage 90 = .ok (.iadd, 1) := by decide +kernel
theorem dX10_stage_91 : decode cX10_stage 91 = .ok (.iaload, 1) := by decide +kernel
theorem dX10_stage_92 : decode cX10_stage 92 = .ok (.sipush 20000, 3) := by decide +kernel
theorem dX10_stage_95 : decode cX10_stage 95 = .ok (.iadd, 1) := by decide +kernel
theorem dX10_stage_96 : decode cX10_stage 96 = .ok (.goto 5, 3) := by decide +kernel
theorem dX10_stage_99 : decode cX10_stage 99 = .ok (.bipush (-9), 2) := by decide +kernel
theorem dX10_stage_101 : decode cX10_stage 101 = .ok (.ireturn, 1) := by decide +kernel
theorem dX10_stage_102 : decode cX10_stage 102 = .ok (.aload_n 0, 1) := by decide +kernel
theorem dX10_stage_103 : decode cX10_stage 103 = .ok (.getfield 35, 3) := by decide +kernel
theorem dX10_stage_106 : decode cX10_stage 106 = .ok (.iconst 4, 1) := by decide +kernel
theorem dX10_stage_107 : decode cX10_stage 107 = .ok (.iaload, 1) := by decide +kernel
theorem dX10_stage_108 : decode cX10_stage 108 = .ok (.iload_n 1, 1) := by decide +kernel
theorem dX10_stage_109 : decode cX10_stage 109 = .ok (.ishr, 1) := by decide +kernel
theorem dX10_stage_110 : decode cX10_stage 110 = .ok (.iconst 1, 1) := by decide +kernel
theorem dX10_stage_111 : decode cX10_stage 111 = .ok (.iand, 1) := by decide +kernel
theorem dX10_stage_112 : decode cX10_stage 112 = .ok (.ireturn, 1) := by decide +kernel
theorem dX10_stage_113 : decode cX10_stage 113 = .ok (.bipush (-2), 2) := by decide +kernel
theorem dX10_stage_115 : decode cX10_stage 115 = .ok (.ireturn, 1) := by decide +kernel
theorem dX10_byBook_0 : decode cX10_byBook 0 = .ok (.aload_n 0, 1) := by decide +kernel
theorem dX10_byBook_1 : decode cX10_byBook 1 = .ok (.iconst 0, 1) := by decide +kernel
theorem dX10_byBook_2 : decode cX10_byBook 2 = .ok (.putfield 57, 3) := by decide +kernel
theorem dX10_byBook_5 : decode cX10_byBook 5 = .ok (.aload_n 0, 1) := by decide +kernel
theorem dX10_byBook_6 : decode cX10_byBook 6 = .ok (.getfield 13, 3) := by decide +kernel
theorem dX10_byBook_9 : decode cX10_byBook 9 = .ok (.aload_n 0, 1) := by decide +kernel
theorem dX10_byBook_10 : decode cX10_byBook 10 = .ok (.getfield 35, 3) := by decide +kernel
theorem dX10_byBook_13 : decode cX10_byBook 13 = .ok (.iconst 3, 1) := by decide +kernel
theorem dX10_byBook_14 : decode cX10_byBook 14 = .ok (.iaload, 1) := by decide +kernel
theorem dX10_byBook_15 : decode cX10_byBook 15 = .ok (.imul, 1) := by decide +kernel
theorem dX10_byBook_16 : decode cX10_byBook 16 = .ok (.aload_n 0, 1) := by decide +kernel
theorem dX10_byBook_17 : decode cX10_byBook 17 = .ok (.getfield 35, 3) := by decide +kernel
theorem dX10_byBook_20 : decode cX10_byBook 20 = .ok (.iconst 2, 1) := by decide +kernel
theorem dX10_byBook_21 : decode cX10_byBook 21 = .ok (.iaload, 1) := by decide +kernel
theorem dX10_byBook_22 : decode cX10_byBook 22 = .ok (.iadd, 1) := by decide +kernel
theorem dX10_byBook_23 : decode cX10_byBook 23 = .ok (.ireturn, 1) := by decide +kernel
theorem dX10_truly_0 : decode cX10_truly 0 = .ok (.aload_n 0, 1) := by decide +kernel
theorem dX10_truly_1 : decode cX10_truly 1 = .ok (.iconst 0, 1) := by decide +kernel
theorem dX10_truly_2 : decode cX10_truly 2 = .ok (.putfield 57, 3) := by decide +kernel
theorem dX10_truly_5 : decode cX10_truly 5 = .ok (.sipush 20000, 3) := by decide +kernel
theorem dX10_truly_8 : decode cX10_truly 8 = .ok (.istore_n 1, 1) := by decide +kernel
theorem dX10_truly_9 : decode cX10_truly 9 = .ok (.iconst 0, 1) := by decide +kernel
theorem dX10_truly_10 : decode cX10_truly 10 = .ok (.istore_n 2, 1) := by decide +kernel
theorem dX10_truly_11 : decode cX10_truly 11 = .ok (.iload_n 2, 1) := by decide +kernel
theorem dX10_truly_12 : decode cX10_truly 12 = .ok (.aload_n 0, 1) := by decide +kernel
theorem dX10_truly_13 : decode cX10_truly 13 = .ok (.getfield 35, 3) := by decide +kernel
theorem dX10_truly_16 : decode cX10_truly 16 = .ok (.iconst 0, 1) := by decide +kernel
theorem dX10_truly_17 : decode cX10_truly 17 = .ok (.iaload, 1) := by decide +kernel
theorem dX10_truly_18 : decode cX10_truly 18 = .ok (.if_icmp .ge 25, 3) := by decide +kernel
theorem dX10_truly_21 : decode cX10_truly 21 = .ok (.iload_n 1, 1) := by decide +kernel
theorem dX10_truly_22 : decode cX10_truly 22 = .ok (.sipush 1000, 3) := by decide +kernel
theorem dX10_truly_25 : decode cX10_truly 25 = .ok (.aload_n 0, 1) := by decide +kernel
theorem dX10_truly_26 : decode cX10_truly 26 = .ok (.getfield 35, 3) := by decide +kernel
theorem dX10_truly_29 : decode cX10_truly 29 = .ok (.bipush 8, 2) := by decide +kernel
theorem dX10_truly_31 : decode cX10_truly 31 = .ok (.iload_n 2, 1) := by decide +kernel
theorem dX10_truly_32 : decode cX10_truly 32 = .ok (.iadd, 1) := by decide +kernel
theorem dX10_truly_33 : decode cX10_truly 33 = .ok (.iaload, 1) := by decide +kernel
theorem dX10_truly_34 : decode cX10_truly 34 = .ok (.iadd, 1) := by decide +kernel
theorem dX10_truly_35 : decode cX10_truly 35 = .ok (.iadd, 1) := by decide +kernel
theorem dX10_truly_36 : decode cX10_truly 36 = .ok (.istore_n 1, 1) := by decide +kernel
theorem dX10_truly_37 : decode cX10_truly 37 = .ok (.iinc 2 1, 3) := by decide +kernel
theorem dX10_truly_40 : decode cX10_truly 40 = .ok (.goto (-29), 3) := by decide +kernel
theorem dX10_truly_43 : decode cX10_truly 43 = .ok (.iload_n 1, 1) := by decide +kernel
theorem dX10_truly_44 : decode cX10_truly 44 = .ok (.ireturn, 1) := by decide +kernel
theorem dX10_note_0 : decode cX10_note 0 = .ok (.aload_n 0, 1) := by decide +kernel
theorem dX10_note_1 : decode cX10_note 1 = .ok (.getfield 89, 3) := by decide +kernel
theorem dX10_note_4 : decode cX10_note 4 = .ok (.bipush 14, 2) := by decide +kernel
theorem dX10_note_6 : decode cX10_note 6 = .ok (.if_icmp .ne 43, 3) := by decide +kernel
theorem dX10_note_9 : decode cX10_note 9 = .ok (.iconst 0, 1) := by decide +kernel
theorem dX10_note_10 : decode cX10_note 10 = .ok (.istore_n 1, 1) := by decide +kernel
theorem dX10_note_11 : decode cX10_note 11 = .ok (.iload_n 1, 1) := by decide +kernel
theorem dX10_note_12 : decode cX10_note 12 = .ok (.sipush 208, 3) := by decide +kernel
theorem dX10_note_15 : decode cX10_note 15 = .ok (.if_icmp .ge 24, 3) := by decide +kernel
theorem dX10_note_18 : decode cX10_note 18 = .ok (.aload_n 0, 1) := by decide +kernel
theorem dX10_note_19 : decode cX10_note 19 = .ok (.getfield 38, 3) := by decide +kernel
theorem dX10_note_22 : decode cX10_note 22 = .ok (.iload_n 1, 1) := by decide +kernel
theorem dX10_note_23 : decode cX10_note 23 = .ok (.aload_n 0, 1) := by decide +kernel
theorem dX10_note_24 : decode cX10_note 24 = .ok (.getfield 38, 3) := by decide +kernel
theorem dX10_note_27 : decode cX10_note 27 = .ok (.iload_n 1, 1) := by decide +kernel
theorem dX10_note_28 : decode cX10_note 28 = .ok (.bipush 16, 2) := by decide +kernel
theorem dX10_note_30 : decode cX10_note 30 = .ok (.iadd, 1) := by decide +kernel
theorem dX10_note_31 : decode cX10_note 31 = .ok (.iaload, 1) := by decide +kernel
theorem dX10_note_32 : decode cX10_note 32 = .ok (.iastore, 1) := by decide +kernel
theorem dX10_note_33 : decode cX10_note 33 = .ok (.iinc 1 1, 3) := by decide +kernel
theorem dX10_note_36 : decode cX10_note 36 = .ok (.goto (-25), 3) := by decide +kernel
theorem dX10_note_39 : decode cX10_note 39 = .ok (.aload_n 0, 1) := by decide +kernel
theorem dX10_note_40 : decode cX10_note 40 = .ok (.dup, 1) := by decide +kernel
theorem dX10_note_41 : decode cX10_note 41 = .ok (.getfield 89, 3) := by decide +kernel
theorem dX10_note_44 : decode cX10_note 44 = .ok (.iconst 1, 1) := by decide +kernel
theorem dX10_note_45 : decode cX10_note 45 = .ok (.isub, 1) := by decide +kernel
theorem dX10_note_46 : decode cX10_note 46 = .ok (.putfield 89, 3) := by decide +kernel
theorem dX10_note_49 : decode cX10_note 49 = .ok (.iconst 0, 1) := by decide +kernel
theorem dX10_note_50 : decode cX10_note 50 = .ok (.istore_n 1, 1) := by decide +kernel
theorem dX10_note_51 : decode cX10_note 51 = .ok (.iload_n 1, 1) := by decide +kernel
theorem dX10_note_52 : decode cX10_note 52 = .ok (.bipush 16, 2) := by decide +kernel
theorem dX10_note_54 : decode cX10_note 54 = .ok (.if_icmp .ge 29, 3) := by decide +kernel
theorem dX10_note_57 : decode cX10_note 57 = .ok (.aload_n 0, 1) := by decide +kernel
theorem dX10_note_58 : decode cX10_note 58 = .ok (.getfield 38, 3) := by decide +kernel
theorem dX10_note_61 : decode cX10_note 61 = .ok (.bipush 16, 2) := by decide +kernel
theorem dX10_note_63 : decode cX10_note 63 = .ok (.aload_n 0, 1) := by decide +kernel
theorem dX10_note_64 : decode cX10_note 64 = .ok (.getfield 89, 3) := by decide +kernel
theorem dX10_note_67 : decode cX10_note 67 = .ok (.imul, 1) := by decide +kernel
theorem dX10_note_68 : decode cX10_note 68 = .ok (.iload_n 1, 1) := by decide +kernel
theorem dX10_note_69 : decode cX10_note 69 = .ok (.iadd, 1) := by decide +kernel
theorem dX10_note_70 : decode cX10_note 70 = .ok (.aload_n 0, 1) := by decide +kernel
theorem dX10_note_71 : decode cX10_note 71 = .ok (.getfield 35, 3) := by decide +kernel
theorem dX10_note_74 : decode cX10_note 74 = .ok (.iload_n 1, 1) := by decide +kernel
theorem dX10_note_75 : decode cX10_note 75 = .ok (.iaload, 1) := by decide +kernel
theorem dX10_note_76 : decode cX10_note 76 = .ok (.iastore, 1) := by decide +kernel
theorem dX10_note_77 : decode cX10_note 77 = .ok (.iinc 1 1, 3) := by decide +kernel
theorem dX10_note_80 : decode cX10_note 80 = .ok (.goto (-29), 3) := by decide +kernel
theorem dX10_note_83 : decode cX10_note 83 = .ok (.aload_n 0, 1) := by decide +kernel
theorem dX10_note_84 : decode cX10_note 84 = .ok (.dup, 1) := by decide +kernel
theorem dX10_note_85 : decode cX10_note 85 = .ok (.getfield 89, 3) := by decide +kernel
theorem dX10_note_88 : decode cX10_note 88 = .ok (.iconst 1, 1) := by decide +kernel
theorem dX10_note_89 : decode cX10_note 89 = .ok (.iadd, 1) := by decide +kernel
theorem dX10_note_90 : decode cX10_note 90 = .ok (.putfield 89, 3) := by decide +kernel
theorem dX10_note_93 : decode cX10_note 93 = .ok (.return_, 1) := by decide +kernel
set_option maxRecDepth 20000 in
theorem ggX10_lay_X10_ahead : GoodIn wsX10_lay wsX10_ahead := goodIn_r _ [7, 8, 2, 26, 27, 28, 29, 30, 31, 32, 33, 34, 35, 36, 37, 38, 39, 40, 41, 42, 43, 44, 45, 46, 47, 48, 49, 50, 51, 52, 53, 54, 55, 56] (by decide +kernel) (by decide +kernel)
set_option maxRecDepth 20000 in
theorem gX10_lay_X10_ahead : GoodIn wsX10_lay (wsV RX10 102 RX10 yX10_ahead wsX10_ahead) := goodIn_app (goodIn_of _ (by decide +kernel)) ggX10_lay_X10_ahead
set_option maxRecDepth 20000 in
theorem ggX10_lay_X10_note : GoodIn wsX10_lay wsX10_note := goodIn_r _ [12, 13, 14, 2, 26, 27, 28, 29, 30, 31, 32, 33, 34, 35, 36, 37, 38, 39, 40, 41, 42, 43, 44, 45, 46, 47, 48, 49, 50, 51, 52, 53, 54, 55, 56] (by decide +kernel) (by decide +kernel)
set_option maxRecDepth 20000 in
theorem gX10_lay_X10_note : GoodIn wsX10_lay (wsV RX10 105 RX10 yX10_note wsX10_note) := goodIn_app (goodIn_of _ (by decide +kernel)) ggX10_lay_X10_note
set_option maxRecDepth 20000 in
theorem ggX10_lay_X10_errorOf : GoodIn wsX10_lay wsX10_errorOf := goodIn_r _ [18, 2, 19, 20, 21, 22, 23, 6, 24, 25, 26, 27, 28, 29, 30, 31, 32, 33, 34, 35, 36, 37, 38, 39, 40, 41, 42, 43, 44, 45, 46, 47, 48, 49, 50, 51, 52, 53, 54, 55, 56] (by decide +kernel) (by decide +kernel)
set_option maxRecDepth 20000 in
theorem gX10_lay_X10_errorOf : GoodIn wsX10_lay (wsV RX10 108 RX10 yX10_errorOf wsX10_errorOf) := goodIn_app (goodIn_of _ (by decide +kernel)) ggX10_lay_X10_errorOf
theorem dX10_lay_0 : decode cX10_lay 0 = .ok (.aload_n 0, 1) := by decide +kernel
theorem dX10_lay_1 : decode cX10_lay 1 = .ok (.iconst 0, 1) := by decide +kernel
theorem dX10_lay_2 : decode cX10_lay 2 = .ok (.putfield 57, 3) := by decide +kernel
theorem dX10_lay_5 : decode cX10_lay 5 = .ok (.aload_n 0, 1) := by decide +kernel
theorem dX10_lay_6 : decode cX10_lay 6 = .ok (.invokevirtual 102, 3) := by decide +kernel
theorem dX10_lay_9 : decode cX10_lay 9 = .ok (.ifCond .eq 19, 3) := by decide +kernel
theorem dX10_lay_12 : decode cX10_lay 12 = .ok (.aload_n 0, 1) := by decide +kernel
theorem dX10_lay_13 : decode cX10_lay 13 = .ok (.getfield 35, 3) := by decide +kernel
theorem dX10_lay_16 : decode cX10_lay 16 = .ok (.iconst 1, 1) := by decide +kernel
theorem dX10_lay_17 : decode cX10_lay 17 = .ok (.iaload, 1) := by decide +kernel
theorem dX10_lay_18 : decode cX10_lay 18 = .ok (.aload_n 0, 1) := by decide +kernel
theorem dX10_lay_19 : decode cX10_lay 19 = .ok (.getfield 35, 3) := by decide +kernel
theorem dX10_lay_22 : decode cX10_lay 22 = .ok (.iconst 2, 1) := by decide +kernel
theorem dX10_lay_23 : decode cX10_lay 23 = .ok (.iaload, 1) := by decide +kernel
theorem dX10_lay_24 : decode cX10_lay 24 = .ok (.iadd, 1) := by decide +kernel
theorem dX10_lay_25 : decode cX10_lay 25 = .ok (.ifCond .ne 6, 3) := by decide +kernel
theorem dX10_lay_28 : decode cX10_lay 28 = .ok (.bipush (-3), 2) := by decide +kernel
theorem dX10_lay_30 : decode cX10_lay 30 = .ok (.ireturn, 1) := by decide +kernel
theorem dX10_lay_31 : decode cX10_lay 31 = .ok (.aload_n 0, 1) := by decide +kernel
theorem dX10_lay_32 : decode cX10_lay 32 = .ok (.invokevirtual 105, 3) := by decide +kernel
theorem dX10_lay_35 : decode cX10_lay 35 = .ok (.aload_n 0, 1) := by decide +kernel
theorem dX10_lay_36 : decode cX10_lay 36 = .ok (.getfield 35, 3) := by decide +kernel
theorem dX10_lay_39 : decode cX10_lay 39 = .ok (.iconst 1, 1) := by decide +kernel
theorem dX10_lay_40 : decode cX10_lay 40 = .ok (.iaload, 1) := by decide +kernel
theorem dX10_lay_41 : decode cX10_lay 41 = .ok (.ifCond .ne 32, 3) := by decide +kernel
theorem dX10_lay_44 : decode cX10_lay 44 = .ok (.aload_n 0, 1) := by decide +kernel
theorem dX10_lay_45 : decode cX10_lay 45 = .ok (.getfield 35, 3) := by decide +kernel
theorem dX10_lay_48 : decode cX10_lay 48 = .ok (.iconst 1, 1) := by decide +kernel
theorem dX10_lay_49 : decode cX10_lay 49 = .ok (.aload_n 0, 1) := by decide +kernel
theorem dX10_lay_50 : decode cX10_lay 50 = .ok (.getfield 35, 3) := by decide +kernel
theorem dX10_lay_53 : decode cX10_lay 53 = .ok (.iconst 2, 1) := by decide +kernel
theorem dX10_lay_54 : decode cX10_lay 54 = .ok (.iaload, 1) := by decide +kernel
theorem dX10_lay_55 : decode cX10_lay 55 = .ok (.iastore, 1) := by decide +kernel
theorem dX10_lay_56 : decode cX10_lay 56 = .ok (.aload_n 0, 1) := by decide +kernel
theorem dX10_lay_57 : decode cX10_lay 57 = .ok (.getfield 35, 3) := by decide +kernel
theorem dX10_lay_60 : decode cX10_lay 60 = .ok (.iconst 2, 1) := by decide +kernel
theorem dX10_lay_61 : decode cX10_lay 61 = .ok (.iconst 0, 1) := by decide +kernel
theorem dX10_lay_62 : decode cX10_lay 62 = .ok (.iastore, 1) := by decide +kernel
theorem dX10_lay_63 : decode cX10_lay 63 = .ok (.aload_n 0, 1) := by decide +kernel
theorem dX10_lay_64 : decode cX10_lay 64 = .ok (.getfield 35, 3) := by decide +kernel
theorem dX10_lay_67 : decode cX10_lay 67 = .ok (.iconst 3, 1) := by decide +kernel
theorem dX10_lay_68 : decode cX10_lay 68 = .ok (.dup2, 1) := by decide +kernel
theorem dX10_lay_69 : decode cX10_lay 69 = .ok (.iaload, 1) := by decide +kernel
theorem dX10_lay_70 : decode cX10_lay 70 = .ok (.iconst 1, 1) := by decide +kernel
theorem dX10_lay_71 : decode cX10_lay 71 = .ok (.iadd, 1) := by decide +kernel
theorem dX10_lay_72 : decode cX10_lay 72 = .ok (.iastore, 1) := by decide +kernel
theorem dX10_lay_73 : decode cX10_lay 73 = .ok (.aload_n 0, 1) := by decide +kernel
theorem dX10_lay_74 : decode cX10_lay 74 = .ok (.getfield 35, 3) := by decide +kernel
theorem dX10_lay_77 : decode cX10_lay 77 = .ok (.iconst 0, 1) := by decide +kernel
theorem dX10_lay_78 : decode cX10_lay 78 = .ok (.iaload, 1) := by decide +kernel
theorem dX10_lay_79 : decode cX10_lay 79 = .ok (.istore_n 1, 1) := by decide +kernel
theorem dX10_lay_80 : decode cX10_lay 80 = .ok (.aload_n 0, 1) := by decide +kernel
theorem dX10_lay_81 : decode cX10_lay 81 = .ok (.getfield 35, 3) := by decide +kernel
theorem dX10_lay_84 : decode cX10_lay 84 = .ok (.iconst 1, 1) := by decide +kernel
theorem dX10_lay_85 : decode cX10_lay 85 = .ok (.dup2, 1) := by decide +kernel
theorem dX10_lay_86 : decode cX10_lay 86 = .ok (.iaload, 1) := by decide +kernel
theorem dX10_lay_87 : decode cX10_lay 87 = .ok (.iconst 1, 1) := by decide +kernel
theorem dX10_lay_88 : decode cX10_lay 88 = .ok (.isub, 1) := by decide +kernel
theorem dX10_lay_89 : decode cX10_lay 89 = .ok (.iastore, 1) := by decide +kernel
theorem dX10_lay_90 : decode cX10_lay 90 = .ok (.aload_n 0, 1) := by decide +kernel
theorem dX10_lay_91 : decode cX10_lay 91 = .ok (.getfield 35, 3) := by decide +kernel
theorem dX10_lay_94 : decode cX10_lay 94 = .ok (.iconst 2, 1) := by decide +kernel
theorem dX10_lay_95 : decode cX10_lay 95 = .ok (.dup2, 1) := by decide +kernel
theorem dX10_lay_96 : decode cX10_lay 96 = .ok (.iaload, 1) := by decide +kernel
theorem dX10_lay_97 : decode cX10_lay 97 = .ok (.iconst 1, 1) := by decide +kernel
theorem dX10_lay_98 : decode cX10_lay 98 = .ok (.iadd, 1) := by decide +kernel
theorem dX10_lay_99 : decode cX10_lay 99 = .ok (.iastore, 1) := by decide +kernel
theorem dX10_lay_100 : decode cX10_lay 100 = .ok (.aload_n 0, 1) := by decide +kernel
theorem dX10_lay_101 : decode cX10_lay 101 = .ok (.getfield 35, 3) := by decide +kernel
theorem dX10_lay_104 : decode cX10_lay 104 = .ok (.bipush 8, 2) := by decide +kernel
theorem dX10_lay_106 : decode cX10_lay 106 = .ok (.iload_n 1, 1) := by decide +kernel
theorem dX10_lay_107 : decode cX10_lay 107 = .ok (.iadd, 1) := by decide +kernel
theorem dX10_lay_108 : decode cX10_lay 108 = .ok (.aload_n 0, 1) := by decide +kernel
theorem dX10_lay_109 : decode cX10_lay 109 = .ok (.iload_n 1, 1) := by decide +kernel
theorem dX10_lay_110 : decode cX10_lay 110 = .ok (.aload_n 0, 1) := by decide +kernel
theorem dX10_lay_111 : decode cX10_lay 111 = .ok (.getfield 35, 3) := by decide +kernel
theorem dX10_lay_114 : decode cX10_lay 114 = .ok (.iconst 5, 1) := by decide +kernel
theorem dX10_lay_115 : decode cX10_lay 115 = .ok (.iaload, 1) := by decide +kernel
theorem dX10_lay_116 : decode cX10_lay 116 = .ok (.invokevirtual 108, 3) := by decide +kernel
theorem dX10_lay_119 : decode cX10_lay 119 = .ok (.iastore, 1) := by decide +kernel
theorem dX10_lay_120 : decode cX10_lay 120 = .ok (.aload_n 0, 1) := by decide +kernel
theorem dX10_lay_121 : decode cX10_lay 121 = .ok (.getfield 35, 3) := by decide +kernel
theorem dX10_lay_124 : decode cX10_lay 124 = .ok (.iconst 0, 1) := by decide +kernel
theorem dX10_lay_125 : decode cX10_lay 125 = .ok (.dup2, 1) := by decide +kernel
theorem dX10_lay_126 : decode cX10_lay 126 = .ok (.iaload, 1) := by decide +kernel
theorem dX10_lay_127 : decode cX10_lay 127 = .ok (.iconst 1, 1) := by decide +kernel
theorem dX10_lay_128 : decode cX10_lay 128 = .ok (.iadd, 1) := by decide +kernel
theorem dX10_lay_129 : decode cX10_lay 129 = .ok (.iastore, 1) := by decide +kernel
theorem dX10_lay_130 : decode cX10_lay 130 = .ok (.aload_n 0, 1) := by decide +kernel
theorem dX10_lay_131 : decode cX10_lay 131 = .ok (.getfield 35, 3) := by decide +kernel
theorem dX10_lay_134 : decode cX10_lay 134 = .ok (.bipush 8, 2) := by decide +kernel
theorem dX10_lay_136 : decode cX10_lay 136 = .ok (.iload_n 1, 1) := by decide +kernel
theorem dX10_lay_137 : decode cX10_lay 137 = .ok (.iadd, 1) := by decide +kernel
theorem dX10_lay_138 : decode cX10_lay 138 = .ok (.iaload, 1) := by decide +kernel
theorem dX10_lay_139 : decode cX10_lay 139 = .ok (.sipush 20000, 3) := by decide +kernel
theorem dX10_lay_142 : decode cX10_lay 142 = .ok (.iadd, 1) := by decide +kernel
theorem dX10_lay_143 : decode cX10_lay 143 = .ok (.ireturn, 1) := by decide +kernel
set_option maxRecDepth 20000 in
theorem ggX10_lose_X10_has : GoodIn wsX10_lose wsX10_has := goodIn_r _ [6] (by decide +kernel) (by decide +kernel)
set_option maxRecDepth 20000 in
theorem gX10_lose_X10_has : GoodIn wsX10_lose (va_wsS RX10 111 yX10_has wsX10_has) := goodIn_app (goodIn_of _ (by decide +kernel)) ggX10_lose_X10_has
set_option maxRecDepth 20000 in
theorem ggX10_lose_X10_note : GoodIn wsX10_lose wsX10_note := goodIn_r _ [10, 11, 12, 2, 13, 14, 15, 16, 17, 18, 19, 20, 21, 22, 23, 24, 25, 26, 27, 28, 29, 30, 31, 32, 33, 34, 35, 36, 37, 38, 39, 40, 41, 42, 43] (by decide +kernel) (by decide +kernel)
set_option maxRecDepth 20000 in
theorem gX10_lose_X10_note : GoodIn wsX10_lose (wsV RX10 105 RX10 yX10_note wsX10_note) := goodIn_app (goodIn_of _ (by decide +kernel)) ggX10_lose_X10_note
theorem dX10_lose_0 : decode cX10_lose 0 = .ok (.aload_n 0, 1) := by decide +kernel
theorem dX10_lose_1 : decode cX10_lose 1 = .ok (.iconst 0, 1) := by decide +kernel
theorem dX10_lose_2 : decode cX10_lose 2 = .ok (.putfield 57, 3) := by decide +kernel
theorem dX10_lose_5 : decode cX10_lose 5 = .ok (.aload_n 0, 1) := by decide +kernel
theorem dX10_lose_6 : decode cX10_lose 6 = .ok (.getfield 35, 3) := by decide +kernel
theorem dX10_lose_9 : decode cX10_lose 9 = .ok (.iconst 0, 1) := by decide +kernel
theorem dX10_lose_10 : decode cX10_lose 10 = .ok (.iaload, 1) := by decide +kernel
theorem dX10_lose_11 : decode cX10_lose 11 = .ok (.iconst 1, 1) := by decide +kernel
theorem dX10_lose_12 : decode cX10_lose 12 = .ok (.isub, 1) := by decide +kernel
theorem dX10_lose_13 : decode cX10_lose 13 = .ok (.istore_n 1, 1) := by decide +kernel
theorem dX10_lose_14 : decode cX10_lose 14 = .ok (.iload_n 1, 1) := by decide +kernel
theorem dX10_lose_15 : decode cX10_lose 15 = .ok (.ifCond .lt 16, 3) := by decide +kernel
theorem dX10_lose_18 : decode cX10_lose 18 = .ok (.aload_n 0, 1) := by decide +kernel
theorem dX10_lose_19 : decode cX10_lose 19 = .ok (.getfield 35, 3) := by decide +kernel
theorem dX10_lose_22 : decode cX10_lose 22 = .ok (.iconst 4, 1) := by decide +kernel
theorem dX10_lose_23 : decode cX10_lose 23 = .ok (.iaload, 1) := by decide +kernel
theorem dX10_lose_24 : decode cX10_lose 24 = .ok (.iload_n 1, 1) := by decide +kernel
theorem dX10_lose_25 : decode cX10_lose 25 = .ok (.invokestatic 111, 3) := by decide +kernel
theorem dX10_lose_28 : decode cX10_lose 28 = .ok (.ifCond .eq 6, 3) := by decide +kernel
theorem dX10_lose_31 : decode cX10_lose 31 = .ok (.bipush (-3), 2) := by decide +kernel
theorem dX10_lose_33 : decode cX10_lose 33 = .ok (.ireturn, 1) := by decide +kernel
theorem dX10_lose_34 : decode cX10_lose 34 = .ok (.aload_n 0, 1) := by decide +kernel
theorem dX10_lose_35 : decode cX10_lose 35 = .ok (.invokevirtual 105, 3) := by decide +kernel
theorem dX10_lose_38 : decode cX10_lose 38 = .ok (.aload_n 0, 1) := by decide +kernel
theorem dX10_lose_39 : decode cX10_lose 39 = .ok (.getfield 35, 3) := by decide +kernel
theorem dX10_lose_42 : decode cX10_lose 42 = .ok (.iconst 4, 1) := by decide +kernel
theorem dX10_lose_43 : decode cX10_lose 43 = .ok (.dup2, 1) := by decide +kernel
theorem dX10_lose_44 : decode cX10_lose 44 = .ok (.iaload, 1) := by decide +kernel
theorem dX10_lose_45 : decode cX10_lose 45 = .ok (.iconst 1, 1) := by decide +kernel
theorem dX10_lose_46 : decode cX10_lose 46 = .ok (.iload_n 1, 1) := by decide +kernel
theorem dX10_lose_47 : decode cX10_lose 47 = .ok (.ishl, 1) := by decide +kernel
theorem dX10_lose_48 : decode cX10_lose 48 = .ok (.ior, 1) := by decide +kernel
theorem dX10_lose_49 : decode cX10_lose 49 = .ok (.iastore, 1) := by decide +kernel
theorem dX10_lose_50 : decode cX10_lose 50 = .ok (.aload_n 0, 1) := by decide +kernel
theorem dX10_lose_51 : decode cX10_lose 51 = .ok (.getfield 35, 3) := by decide +kernel
theorem dX10_lose_54 : decode cX10_lose 54 = .ok (.iconst 2, 1) := by decide +kernel
theorem dX10_lose_55 : decode cX10_lose 55 = .ok (.dup2, 1) := by decide +kernel
theorem dX10_lose_56 : decode cX10_lose 56 = .ok (.iaload, 1) := by decide +kernel
theorem dX10_lose_57 : decode cX10_lose 57 = .ok (.iconst 1, 1) := by decide +kernel
theorem dX10_lose_58 : decode cX10_lose 58 = .ok (.isub, 1) := by decide +kernel
theorem dX10_lose_59 : decode cX10_lose 59 = .ok (.iastore, 1) := by decide +kernel
theorem dX10_lose_60 : decode cX10_lose 60 = .ok (.aload_n 0, 1) := by decide +kernel
theorem dX10_lose_61 : decode cX10_lose 61 = .ok (.getfield 35, 3) := by decide +kernel
theorem dX10_lose_64 : decode cX10_lose 64 = .ok (.iconst 2, 1) := by decide +kernel
theorem dX10_lose_65 : decode cX10_lose 65 = .ok (.iaload, 1) := by decide +kernel
theorem dX10_lose_66 : decode cX10_lose 66 = .ok (.ireturn, 1) := by decide +kernel
set_option maxRecDepth 20000 in
theorem ggX10_find_X10_noStage : GoodIn wsX10_find wsX10_noStage := goodIn_r _ [7, 8, 9, 10, 6, 11, 21, 22, 23, 24, 25, 26, 27, 28, 29, 30, 31, 32, 33, 34, 35, 36, 37, 38, 39, 40, 41, 42, 43, 44, 45, 46, 47, 48, 49, 50, 51] (by decide +kernel) (by decide +kernel)
set_option maxRecDepth 20000 in
theorem gX10_find_X10_noStage : GoodIn wsX10_find (wsV RX10 98 RX10 yX10_noStage wsX10_noStage) := goodIn_app (goodIn_of _ (by decide +kernel)) ggX10_find_X10_noStage
set_option maxRecDepth 20000 in
theorem ggX10_find_X10_has : GoodIn wsX10_find wsX10_has := goodIn_r _ [14] (by decide +kernel) (by decide +kernel)
set_option maxRecDepth 20000 in
theorem gX10_find_X10_has : GoodIn wsX10_find (va_wsS RX10 111 yX10_has wsX10_has) := goodIn_app (goodIn_of _ (by decide +kernel)) ggX10_find_X10_has
set_option maxRecDepth 20000 in
theorem ggX10_find_X10_note : GoodIn wsX10_find wsX10_note := goodIn_r _ [18, 19, 20, 2, 21, 22, 23, 24, 25, 26, 27, 28, 29, 30, 31, 32, 33, 34, 35, 36, 37, 38, 39, 40, 41, 42, 43, 44, 45, 46, 47, 48, 49, 50, 51] (by decide +kernel) (by decide +kernel)
set_option maxRecDepth 20000 in
theorem gX10_find_X10_note : GoodIn wsX10_find (wsV RX10 105 RX10 yX10_note wsX10_note) := goodIn_app (goodIn_of _ (by decide +kernel)) ggX10_find_X10_note
theorem dX10_find_0 : decode cX10_find 0 = .ok (.aload_n 0, 1) := by decide +kernel
theorem dX10_find_1 : decode cX10_find 1 = .ok (.iconst 0, 1) := by decide +kernel
theorem dX10_find_2 : decode cX10_find 2 = .ok (.putfield 57, 3) := by decide +kernel
theorem dX10_find_5 : decode cX10_find 5 = .ok (.aload_n 0, 1) := by decide +kernel
theorem dX10_find_6 : decode cX10_find 6 = .ok (.iload_n 1, 1) := by decide +kernel
theorem dX10_find_7 : decode cX10_find 7 = .ok (.invokevirtual 98, 3) := by decide +kernel
theorem dX10_find_10 : decode cX10_find 10 = .ok (.ifCond .eq 5, 3) := by decide +kernel
theorem dX10_find_13 : decode cX10_find 13 = .ok (.iconst (-1), 1) := by decide +kernel
theorem dX10_find_14 : decode cX10_find 14 = .ok (.ireturn, 1) := by decide +kernel
theorem dX10_find_15 : decode cX10_find 15 = .ok (.aload_n 0, 1) := by decide +kernel
theorem dX10_find_16 : decode cX10_find 16 = .ok (.getfield 35, 3) := by decide +kernel
theorem dX10_find_19 : decode cX10_find 19 = .ok (.iconst 4, 1) := by decide +kernel
theorem dX10_find_20 : decode cX10_find 20 = .ok (.iaload, 1) := by decide +kernel
theorem dX10_find_21 : decode cX10_find 21 = .ok (.iload_n 1, 1) := by decide +kernel
theorem dX10_find_22 : decode cX10_find 22 = .ok (.invokestatic 111, 3) := by decide +kernel
theorem dX10_find_25 : decode cX10_find 25 = .ok (.ifCond .ne 6, 3) := by decide +kernel
theorem dX10_find_28 : decode cX10_find 28 = .ok (.bipush (-3), 2) := by decide +kernel
theorem dX10_find_30 : decode cX10_find 30 = .ok (.ireturn, 1) := by decide +kernel
theorem dX10_find_31 : decode cX10_find 31 = .ok (.aload_n 0, 1) := by decide +kernel
theorem dX10_find_32 : decode cX10_find 32 = .ok (.invokevirtual 105, 3) := by decide +kernel
theorem dX10_find_35 : decode cX10_find 35 = .ok (.aload_n 0, 1) := by decide +kernel
theorem dX10_find_36 : decode cX10_find 36 = .ok (.getfield 35, 3) := by decide +kernel
theorem dX10_find_39 : decode cX10_find 39 = .ok (.iconst 4, 1) := by decide +kernel
theorem dX10_find_40 : decode cX10_find 40 = .ok (.dup2, 1) := by decide +kernel
theorem dX10_find_41 : decode cX10_find 41 = .ok (.iaload, 1) := by decide +kernel
theorem dX10_find_42 : decode cX10_find 42 = .ok (.iconst 1, 1) := by decide +kernel
theorem dX10_find_43 : decode cX10_find 43 = .ok (.iload_n 1, 1) := by decide +kernel
theorem dX10_find_44 : decode cX10_find 44 = .ok (.ishl, 1) := by decide +kernel
theorem dX10_find_45 : decode cX10_find 45 = .ok (.iconst (-1), 1) := by decide +kernel
theorem dX10_find_46 : decode cX10_find 46 = .ok (.ixor, 1) := by decide +kernel
theorem dX10_find_47 : decode cX10_find 47 = .ok (.iand, 1) := by decide +kernel
theorem dX10_find_48 : decode cX10_find 48 = .ok (.iastore, 1) := by decide +kernel
theorem dX10_find_49 : decode cX10_find 49 = .ok (.aload_n 0, 1) := by decide +kernel
theorem dX10_find_50 : decode cX10_find 50 = .ok (.getfield 35, 3) := by decide +kernel
theorem dX10_find_53 : decode cX10_find 53 = .ok (.iconst 2, 1) := by decide +kernel
theorem dX10_find_54 : decode cX10_find 54 = .ok (.dup2, 1) := by decide +kernel
theorem dX10_find_55 : decode cX10_find 55 = .ok (.iaload, 1) := by decide +kernel
theorem dX10_find_56 : decode cX10_find 56 = .ok (.iconst 1, 1) := by decide +kernel
theorem dX10_find_57 : decode cX10_find 57 = .ok (.iadd, 1) := by decide +kernel
theorem dX10_find_58 : decode cX10_find 58 = .ok (.iastore, 1) := by decide +kernel
theorem dX10_find_59 : decode cX10_find 59 = .ok (.aload_n 0, 1) := by decide +kernel
theorem dX10_find_60 : decode cX10_find 60 = .ok (.getfield 35, 3) := by decide +kernel
theorem dX10_find_63 : decode cX10_find 63 = .ok (.iconst 2, 1) := by decide +kernel
theorem dX10_find_64 : decode cX10_find 64 = .ok (.iaload, 1) := by decide +kernel
theorem dX10_find_65 : decode cX10_find 65 = .ok (.ireturn, 1) := by decide +kernel
set_option maxRecDepth 20000 in
theorem ggX10_doubled_X10_note : GoodIn wsX10_doubled wsX10_note := goodIn_r _ [7, 8, 9, 2, 10, 11, 12, 13, 14, 15, 16, 17, 18, 19, 20, 21, 22, 23, 24, 25, 26, 27, 28, 29, 30, 31, 32, 33, 34, 35, 36, 37, 38, 39, 40] (by decide +kernel) (by decide +kernel)
set_option maxRecDepth 20000 in
theorem gX10_doubled_X10_note : GoodIn wsX10_doubled (wsV RX10 105 RX10 yX10_note wsX10_note) := goodIn_app (goodIn_of _ (by decide +kernel)) ggX10_doubled_X10_note
theorem dX10_doubled_0 : decode cX10_doubled 0 = .ok (.aload_n 0, 1) := by decide +kernel
theorem dX10_doubled_1 : decode cX10_doubled 1 = .ok (.iconst 0, 1) := by decide +kernel
theorem dX10_doubled_2 : decode cX10_doubled 2 = .ok (.putfield 57, 3) := by decide +kernel
theorem dX10_doubled_5 : decode cX10_doubled 5 = .ok (.aload_n 0, 1) := by decide +kernel
theorem dX10_doubled_6 : decode cX10_doubled 6 = .ok (.invokevirtual 105, 3) := by decide +kernel
theorem dX10_doubled_9 : decode cX10_doubled 9 = .ok (.aload_n 0, 1) := by decide +kernel
theorem dX10_doubled_10 : decode cX10_doubled 10 = .ok (.getfield 35, 3) := by decide +kernel
theorem dX10_doubled_13 : decode cX10_doubled 13 = .ok (.iconst 3, 1) := by decide +kernel
theorem dX10_doubled_14 : decode cX10_doubled 14 = .ok (.dup2, 1) := by decide +kernel
theorem dX10_doubled_15 : decode cX10_doubled 15 = .ok (.iaload, 1) := by decide +kernel
theorem dX10_doubled_16 : decode cX10_doubled 16 = .ok (.iconst 1, 1) := by decide +kernel
theorem dX10_doubled_17 : decode cX10_doubled 17 = .ok (.iadd, 1) := by decide +kernel
theorem dX10_doubled_18 : decode cX10_doubled 18 = .ok (.iastore, 1) := by decide +kernel
theorem dX10_doubled_19 : decode cX10_doubled 19 = .ok (.aload_n 0, 1) := by decide +kernel
theorem dX10_doubled_20 : decode cX10_doubled 20 = .ok (.getfield 35, 3) := by decide +kernel
theorem dX10_doubled_23 : decode cX10_doubled 23 = .ok (.iconst 3, 1) := by decide +kernel
theorem dX10_doubled_24 : decode cX10_doubled 24 = .ok (.iaload, 1) := by decide +kernel
theorem dX10_doubled_25 : decode cX10_doubled 25 = .ok (.ireturn, 1) := by decide +kernel
set_option maxRecDepth 20000 in
theorem ggX10_change_X10_note : GoodIn wsX10_change wsX10_note := goodIn_r _ [7, 8, 9, 2, 10, 11, 12, 13, 14, 15, 16, 17, 18, 19, 20, 21, 22, 23, 24, 25, 26, 27, 28, 29, 30, 31, 32, 33, 34, 35, 36, 37, 38, 39, 40] (by decide +kernel) (by decide +kernel)
set_option maxRecDepth 20000 in
theorem gX10_change_X10_note : GoodIn wsX10_change (wsV RX10 105 RX10 yX10_note wsX10_note) := goodIn_app (goodIn_of _ (by decide +kernel)) ggX10_change_X10_note
theorem dX10_change_0 : decode cX10_change 0 = .ok (.aload_n 0, 1) := by decide +kernel
theorem dX10_change_1 : decode cX10_change 1 = .ok (.iconst 0, 1) := by decide +kernel
theorem dX10_change_2 : decode cX10_change 2 = .ok (.putfield 57, 3) := by decide +kernel
theorem dX10_change_5 : decode cX10_change 5 = .ok (.aload_n 0, 1) := by decide +kernel
theorem dX10_change_6 : decode cX10_change 6 = .ok (.invokevirtual 105, 3) := by decide +kernel
theorem dX10_change_9 : decode cX10_change 9 = .ok (.aload_n 0, 1) := by decide +kernel
theorem dX10_change_10 : decode cX10_change 10 = .ok (.getfield 35, 3) := by decide +kernel
theorem dX10_change_13 : decode cX10_change 13 = .ok (.iconst 5, 1) := by decide +kernel
theorem dX10_change_14 : decode cX10_change 14 = .ok (.iconst 1, 1) := by decide +kernel
theorem dX10_change_15 : decode cX10_change 15 = .ok (.aload_n 0, 1) := by decide +kernel
theorem dX10_change_16 : decode cX10_change 16 = .ok (.getfield 35, 3) := by decide +kernel
theorem dX10_change_19 : decode cX10_change 19 = .ok (.iconst 5, 1) := by decide +kernel
theorem dX10_change_20 : decode cX10_change 20 = .ok (.iaload, 1) := by decide +kernel
theorem dX10_change_21 : decode cX10_change 21 = .ok (.isub, 1) := by decide +kernel
theorem dX10_change_22 : decode cX10_change 22 = .ok (.iastore, 1) := by decide +kernel
theorem dX10_change_23 : decode cX10_change 23 = .ok (.aload_n 0, 1) := by decide +kernel
theorem dX10_change_24 : decode cX10_change 24 = .ok (.getfield 35, 3) := by decide +kernel
theorem dX10_change_27 : decode cX10_change 27 = .ok (.iconst 5, 1) := by decide +kernel
theorem dX10_change_28 : decode cX10_change 28 = .ok (.iaload, 1) := by decide +kernel
theorem dX10_change_29 : decode cX10_change 29 = .ok (.ireturn, 1) := by decide +kernel
set_option maxRecDepth 20000 in
theorem ggX10_stretch_X10_in : GoodIn wsX10_stretch wsX10_in := goodIn_r _ [10] (by decide +kernel) (by decide +kernel)
set_option maxRecDepth 20000 in
theorem gX10_stretch_X10_in : GoodIn wsX10_stretch (va_wsS RX10 63 yX10_in wsX10_in) := goodIn_app (goodIn_of _ (by decide +kernel)) ggX10_stretch_X10_in
set_option maxRecDepth 20000 in
theorem ggX10_stretch_X10_note : GoodIn wsX10_stretch wsX10_note := goodIn_r _ [14, 15, 16, 4, 17, 18, 19, 20, 21, 22, 23, 24, 25, 26, 27, 28, 29, 30, 31, 32, 33, 34, 35, 36, 37, 38, 39, 40, 41, 42, 43, 44, 45, 46, 47] (by decide +kernel) (by decide +kernel)
set_option maxRecDepth 20000 in
theorem gX10_stretch_X10_note : GoodIn wsX10_stretch (wsV RX10 105 RX10 yX10_note wsX10_note) := goodIn_app (goodIn_of _ (by decide +kernel)) ggX10_stretch_X10_note
theorem dX10_stretch_0 : decode cX10_stretch 0 = .ok (.aload_n 0, 1) := by decide +kernel
theorem dX10_stretch_1 : decode cX10_stretch 1 = .ok (.iconst 0, 1) := by decide +kernel
theorem dX10_stretch_2 : decode cX10_stretch 2 = .ok (.putfield 57, 3) := by decide +kernel
theorem dX10_stretch_5 : decode cX10_stretch 5 = .ok (.iload_n 1, 1) := by decide +kernel
theorem dX10_stretch_6 : decode cX10_stretch 6 = .ok (.i2l, 1) := by decide +kernel
theorem dX10_stretch_7 : decode cX10_stretch 7 = .ok (.ldc2_w 115, 3) := by decide +kernel
theorem dX10_stretch_10 : decode cX10_stretch 10 = .ok (.ldc2_w 117, 3) := by decide +kernel
theorem dX10_stretch_13 : decode cX10_stretch 13 = .ok (.invokestatic 63, 3) := by decide +kernel
theorem dX10_stretch_16 : decode cX10_stretch 16 = .ok (.ifCond .eq 7, 3) := by decide +kernel
theorem dX10_stretch_19 : decode cX10_stretch 19 = .ok (.iload_n 1, 1) := by decide +kernel
theorem dX10_stretch_20 : decode cX10_stretch 20 = .ok (.ifCond .ne 6, 3) := by decide +kernel
theorem dX10_stretch_23 : decode cX10_stretch 23 = .ok (.bipush (-2), 2) := by decide +kernel
theorem dX10_stretch_25 : decode cX10_stretch 25 = .ok (.ireturn, 1) := by decide +kernel
theorem dX10_stretch_26 : decode cX10_stretch 26 = .ok (.aload_n 0, 1) := by decide +kernel
theorem dX10_stretch_27 : decode cX10_stretch 27 = .ok (.getfield 35, 3) := by decide +kernel
theorem dX10_stretch_30 : decode cX10_stretch 30 = .ok (.bipush 6, 2) := by decide +kernel
theorem dX10_stretch_32 : decode cX10_stretch 32 = .ok (.iaload, 1) := by decide +kernel
theorem dX10_stretch_33 : decode cX10_stretch 33 = .ok (.iload_n 1, 1) := by decide +kernel
theorem dX10_stretch_34 : decode cX10_stretch 34 = .ok (.iadd, 1) := by decide +kernel
theorem dX10_stretch_35 : decode cX10_stretch 35 = .ok (.i2l, 1) := by decide +kernel
theorem dX10_stretch_36 : decode cX10_stretch 36 = .ok (.ldc2_w 119, 3) := by decide +kernel
theorem dX10_stretch_39 : decode cX10_stretch 39 = .ok (.ldc2_w 121, 3) := by decide +kernel
theorem dX10_stretch_42 : decode cX10_stretch 42 = .ok (.invokestatic 63, 3) := by decide +kernel
theorem dX10_stretch_45 : decode cX10_stretch 45 = .ok (.ifCond .ne 6, 3) := by decide +kernel
theorem dX10_stretch_48 : decode cX10_stretch 48 = .ok (.bipush (-3), 2) := by decide +kernel
theorem dX10_stretch_50 : decode cX10_stretch 50 = .ok (.ireturn, 1) := by decide +kernel
theorem dX10_stretch_51 : decode cX10_stretch 51 = .ok (.aload_n 0, 1) := by decide +kernel
theorem dX10_stretch_52 : decode cX10_stretch 52 = .ok (.invokevirtual 105, 3) := by decide +kernel
theorem dX10_stretch_55 : decode cX10_stretch 55 = .ok (.aload_n 0, 1) := by decide +kernel
theorem dX10_stretch_56 : decode cX10_stretch 56 = .ok (.getfield 35, 3) := by decide +kernel
theorem dX10_stretch_59 : decode cX10_stretch 59 = .ok (.bipush 6, 2) := by decide +kernel
theorem dX10_stretch_61 : decode cX10_stretch 61 = .ok (.dup2, 1) := by decide +kernel
theorem dX10_stretch_62 : decode cX10_stretch 62 = .ok (.iaload, 1) := by decide +kernel
theorem dX10_stretch_63 : decode cX10_stretch 63 = .ok (.iload_n 1, 1) := by decide +kernel
theorem dX10_stretch_64 : decode cX10_stretch 64 = .ok (.iadd, 1) := by decide +kernel
theorem dX10_stretch_65 : decode cX10_stretch 65 = .ok (.iastore, 1) := by decide +kernel
theorem dX10_stretch_66 : decode cX10_stretch 66 = .ok (.aload_n 0, 1) := by decide +kernel
theorem dX10_stretch_67 : decode cX10_stretch 67 = .ok (.getfield 35, 3) := by decide +kernel
theorem dX10_stretch_70 : decode cX10_stretch 70 = .ok (.bipush 6, 2) := by decide +kernel
theorem dX10_stretch_72 : decode cX10_stretch 72 = .ok (.iaload, 1) := by decide +kernel
theorem dX10_stretch_73 : decode cX10_stretch 73 = .ok (.bipush 50, 2) := by decide +kernel
theorem dX10_stretch_75 : decode cX10_stretch 75 = .ok (.iadd, 1) := by decide +kernel
theorem dX10_stretch_76 : decode cX10_stretch 76 = .ok (.ireturn, 1) := by decide +kernel
set_option maxRecDepth 20000 in
theorem ggX10_knot_X10_note : GoodIn wsX10_knot wsX10_note := goodIn_r _ [7, 8, 9, 2, 10, 11, 12, 13, 14, 15, 16, 17, 18, 19, 20, 21, 22, 23, 24, 25, 26, 27, 28, 29, 30, 31, 32, 33, 34, 35, 36, 37, 38, 39, 40] (by decide +kernel) (by decide +kernel)
set_option maxRecDepth 20000 in
theorem gX10_knot_X10_note : GoodIn wsX10_knot (wsV RX10 105 RX10 yX10_note wsX10_note) := goodIn_app (goodIn_of _ (by decide +kernel)) ggX10_knot_X10_note
theorem dX10_knot_0 : decode cX10_knot 0 = .ok (.aload_n 0, 1) := by decide +kernel
theorem dX10_knot_1 : decode cX10_knot 1 = .ok (.iconst 0, 1) := by decide +kernel
theorem dX10_knot_2 : decode cX10_knot 2 = .ok (.putfield 57, 3) := by decide +kernel
theorem dX10_knot_5 : decode cX10_knot 5 = .ok (.aload_n 0, 1) := by decide +kernel
theorem dX10_knot_6 : decode cX10_knot 6 = .ok (.getfield 35, 3) := by decide +kernel
theorem dX10_knot_9 : decode cX10_knot 9 = .ok (.bipush 7, 2) := by decide +kernel
theorem dX10_knot_11 : decode cX10_knot 11 = .ok (.iaload, 1) := by decide +kernel
theorem dX10_knot_12 : decode cX10_knot 12 = .ok (.bipush 9, 2) := by decide +kernel
theorem dX10_knot_14 : decode cX10_knot 14 = .ok (.if_icmp .ne 6, 3) := by decide +kernel
theorem dX10_knot_17 : decode cX10_knot 17 = .ok (.bipush (-4), 2) := by decide +kernel
theorem dX10_knot_19 : decode cX10_knot 19 = .ok (.ireturn, 1) := by decide +kernel
theorem dX10_knot_20 : decode cX10_knot 20 = .ok (.aload_n 0, 1) := by decide +kernel
theorem dX10_knot_21 : decode cX10_knot 21 = .ok (.invokevirtual 105, 3) := by decide +kernel
theorem dX10_knot_24 : decode cX10_knot 24 = .ok (.aload_n 0, 1) := by decide +kernel
theorem dX10_knot_25 : decode cX10_knot 25 = .ok (.getfield 35, 3) := by decide +kernel
theorem dX10_knot_28 : decode cX10_knot 28 = .ok (.bipush 7, 2) := by decide +kernel
theorem dX10_knot_30 : decode cX10_knot 30 = .ok (.dup2, 1) := by decide +kernel
theorem dX10_knot_31 : decode cX10_knot 31 = .ok (.iaload, 1) := by decide +kernel
theorem dX10_knot_32 : decode cX10_knot 32 = .ok (.iconst 1, 1) := by decide +kernel
theorem dX10_knot_33 : decode cX10_knot 33 = .ok (.iadd, 1) := by decide +kernel
theorem dX10_knot_34 : decode cX10_knot 34 = .ok (.iastore, 1) := by decide +kernel
theorem dX10_knot_35 : decode cX10_knot 35 = .ok (.aload_n 0, 1) := by decide +kernel
theorem dX10_knot_36 : decode cX10_knot 36 = .ok (.getfield 35, 3) := by decide +kernel
theorem dX10_knot_39 : decode cX10_knot 39 = .ok (.bipush 7, 2) := by decide +kernel
theorem dX10_knot_41 : decode cX10_knot 41 = .ok (.iaload, 1) := by decide +kernel
theorem dX10_knot_42 : decode cX10_knot 42 = .ok (.ireturn, 1) := by decide +kernel
set_option maxRecDepth 20000 in
theorem ggX10_clear_X10_note : GoodIn wsX10_clear wsX10_note := goodIn_r _ [7, 8, 9, 2, 10, 11, 12, 13, 14, 15, 16, 17, 18, 19, 20, 21, 22, 23, 24, 25, 26, 27, 28, 29, 30, 31, 32, 33, 34, 35, 36, 37, 38, 39, 40] (by decide +kernel) (by decide +kernel)
set_option maxRecDepth 20000 in
theorem gX10_clear_X10_note : GoodIn wsX10_clear (wsV RX10 105 RX10 yX10_note wsX10_note) := goodIn_app (goodIn_of _ (by decide +kernel)) ggX10_clear_X10_note
theorem dX10_clear_0 : decode cX10_clear 0 = .ok (.aload_n 0, 1) := by decide +kernel
theorem dX10_clear_1 : decode cX10_clear 1 = .ok (.iconst 0, 1) := by decide +kernel
theorem dX10_clear_2 : decode cX10_clear 2 = .ok (.putfield 57, 3) := by decide +kernel
theorem dX10_clear_5 : decode cX10_clear 5 = .ok (.aload_n 0, 1) := by decide +kernel
theorem dX10_clear_6 : decode cX10_clear 6 = .ok (.getfield 35, 3) := by decide +kernel
theorem dX10_clear_9 : decode cX10_clear 9 = .ok (.bipush 7, 2) := by decide +kernel
theorem dX10_clear_11 : decode cX10_clear 11 = .ok (.iaload, 1) := by decide +kernel
theorem dX10_clear_12 : decode cX10_clear 12 = .ok (.istore_n 1, 1) := by decide +kernel
theorem dX10_clear_13 : decode cX10_clear 13 = .ok (.iload_n 1, 1) := by decide +kernel
theorem dX10_clear_14 : decode cX10_clear 14 = .ok (.ifCond .ne 6, 3) := by decide +kernel
theorem dX10_clear_17 : decode cX10_clear 17 = .ok (.bipush (-3), 2) := by decide +kernel
theorem dX10_clear_19 : decode cX10_clear 19 = .ok (.ireturn, 1) := by decide +kernel
theorem dX10_clear_20 : decode cX10_clear 20 = .ok (.aload_n 0, 1) := by decide +kernel
theorem dX10_clear_21 : decode cX10_clear 21 = .ok (.invokevirtual 105, 3) := by decide +kernel
theorem dX10_clear_24 : decode cX10_clear 24 = .ok (.aload_n 0, 1) := by decide +kernel
theorem dX10_clear_25 : decode cX10_clear 25 = .ok (.getfield 35, 3) := by decide +kernel
theorem dX10_clear_28 : decode cX10_clear 28 = .ok (.bipush 7, 2) := by decide +kernel
theorem dX10_clear_30 : decode cX10_clear 30 = .ok (.iconst 0, 1) := by decide +kernel
theorem dX10_clear_31 : decode cX10_clear 31 = .ok (.iastore, 1) := by decide +kernel
theorem dX10_clear_32 : decode cX10_clear 32 = .ok (.iload_n 1, 1) := by decide +kernel
theorem dX10_clear_33 : decode cX10_clear 33 = .ok (.ireturn, 1) := by decide +kernel
theorem dX10_undo_0 : decode cX10_undo 0 = .ok (.aload_n 0, 1) := by decide +kernel
theorem dX10_undo_1 : decode cX10_undo 1 = .ok (.iconst 0, 1) := by decide +kernel
theorem dX10_undo_2 : decode cX10_undo 2 = .ok (.putfield 57, 3) := by decide +kernel
theorem dX10_undo_5 : decode cX10_undo 5 = .ok (.aload_n 0, 1) := by decide +kernel
theorem dX10_undo_6 : decode cX10_undo 6 = .ok (.getfield 89, 3) := by decide +kernel
theorem dX10_undo_9 : decode cX10_undo 9 = .ok (.ifCond .ne 6, 3) := by decide +kernel
theorem dX10_undo_12 : decode cX10_undo 12 = .ok (.bipush (-3), 2) := by decide +kernel
theorem dX10_undo_14 : decode cX10_undo 14 = .ok (.ireturn, 1) := by decide +kernel
theorem dX10_undo_15 : decode cX10_undo 15 = .ok (.aload_n 0, 1) := by decide +kernel
theorem dX10_undo_16 : decode cX10_undo 16 = .ok (.dup, 1) := by decide +kernel
theorem dX10_undo_17 : decode cX10_undo 17 = .ok (.getfield 89, 3) := by decide +kernel
theorem dX10_undo_20 : decode cX10_undo 20 = .ok (.iconst 1, 1) := by decide +kernel
theorem dX10_undo_21 : decode cX10_undo 21 = .ok (.isub, 1) := by decide +kernel
theorem dX10_undo_22 : decode cX10_undo 22 = .ok (.putfield 89, 3) := by decide +kernel
theorem dX10_undo_25 : decode cX10_undo 25 = .ok (.iconst 0, 1) := by decide +kernel
theorem dX10_undo_26 : decode cX10_undo 26 = .ok (.istore_n 1, 1) := by decide +kernel
theorem dX10_undo_27 : decode cX10_undo 27 = .ok (.iload_n 1, 1) := by decide +kernel
theorem dX10_undo_28 : decode cX10_undo 28 = .ok (.bipush 16, 2) := by decide +kernel
theorem dX10_undo_30 : decode cX10_undo 30 = .ok (.if_icmp .ge 29, 3) := by decide +kernel
theorem dX10_undo_33 : decode cX10_undo 33 = .ok (.aload_n 0, 1) := by decide +kernel
theorem dX10_undo_34 : decode cX10_undo 34 = .ok (.getfield 35, 3) := by decide +kernel
theorem dX10_undo_37 : decode cX10_undo 37 = .ok (.iload_n 1, 1) := by decide +kernel
theorem dX10_undo_38 : decode cX10_undo 38 = .ok (.aload_n 0, 1) := by decide +kernel
theorem dX10_undo_39 : decode cX10_undo 39 = .ok (.getfield 38, 3) := by decide +kernel
theorem dX10_undo_42 : decode cX10_undo 42 = .ok (.bipush 16, 2) := by decide +kernel
theorem dX10_undo_44 : decode cX10_undo 44 = .ok (.aload_n 0, 1) := by decide +kernel
theorem dX10_undo_45 : decode cX10_undo 45 = .ok (.getfield 89, 3) := by decide +kernel
theorem dX10_undo_48 : decode cX10_undo 48 = .ok (.imul, 1) := by decide +kernel
theorem dX10_undo_49 : decode cX10_undo 49 = .ok (.iload_n 1, 1) := by decide +kernel
theorem dX10_undo_50 : decode cX10_undo 50 = .ok (.iadd, 1) := by decide +kernel
theorem dX10_undo_51 : decode cX10_undo 51 = .ok (.iaload, 1) := by decide +kernel
theorem dX10_undo_52 : decode cX10_undo 52 = .ok (.iastore, 1) := by decide +kernel
theorem dX10_undo_53 : decode cX10_undo 53 = .ok (.iinc 1 1, 3) := by decide +kernel
theorem dX10_undo_56 : decode cX10_undo 56 = .ok (.goto (-29), 3) := by decide +kernel
theorem dX10_undo_59 : decode cX10_undo 59 = .ok (.aload_n 0, 1) := by decide +kernel
theorem dX10_undo_60 : decode cX10_undo 60 = .ok (.getfield 89, 3) := by decide +kernel
theorem dX10_undo_63 : decode cX10_undo 63 = .ok (.ireturn, 1) := by decide +kernel
set_option maxRecDepth 20000 in
theorem ggX10_offBy_X10_errorOf : GoodIn wsX10_offBy wsX10_errorOf := goodIn_r _ [6, 1, 7, 8, 9, 10, 11, 5, 12, 13, 14, 15, 16, 17, 18, 19, 20, 21, 22, 23, 24, 25, 26, 27, 28, 29, 30, 31, 32, 33, 34, 35, 36, 37, 38, 39, 40, 41, 42, 43, 44] (by decide +kernel) (by decide +kernel)
set_option maxRecDepth 20000 in
theorem gX10_offBy_X10_errorOf : GoodIn wsX10_offBy (wsV RX10 108 RX10 yX10_errorOf wsX10_errorOf) := goodIn_app (goodIn_of _ (by decide +kernel)) ggX10_offBy_X10_errorOf
theorem dX10_offBy_0 : decode cX10_offBy 0 = .ok (.iconst 0, 1) := by decide +kernel
theorem dX10_offBy_1 : decode cX10_offBy 1 = .ok (.istore_n 3, 1) := by decide +kernel
theorem dX10_offBy_2 : decode cX10_offBy 2 = .ok (.aload_n 0, 1) := by decide +kernel
theorem dX10_offBy_3 : decode cX10_offBy 3 = .ok (.getfield 35, 3) := by decide +kernel
theorem dX10_offBy_6 : decode cX10_offBy 6 = .ok (.iconst 0, 1) := by decide +kernel
theorem dX10_offBy_7 : decode cX10_offBy 7 = .ok (.iaload, 1) := by decide +kernel
theorem dX10_offBy_8 : decode cX10_offBy 8 = .ok (.istore 4, 2) := by decide +kernel
theorem dX10_offBy_10 : decode cX10_offBy 10 = .ok (.iload 4, 2) := by decide +kernel
theorem dX10_offBy_12 : decode cX10_offBy 12 = .ok (.aload_n 0, 1) := by decide +kernel
theorem dX10_offBy_13 : decode cX10_offBy 13 = .ok (.getfield 35, 3) := by decide +kernel
theorem dX10_offBy_16 : decode cX10_offBy 16 = .ok (.iconst 0, 1) := by decide +kernel
theorem dX10_offBy_17 : decode cX10_offBy 17 = .ok (.iaload, 1) := by decide +kernel
theorem dX10_offBy_18 : decode cX10_offBy 18 = .ok (.iload_n 1, 1) := by decide +kernel
theorem dX10_offBy_19 : decode cX10_offBy 19 = .ok (.iadd, 1) := by decide +kernel
theorem dX10_offBy_20 : decode cX10_offBy 20 = .ok (.if_icmp .ge 24, 3) := by decide +kernel
theorem dX10_offBy_23 : decode cX10_offBy 23 = .ok (.iload_n 3, 1) := by decide +kernel
theorem dX10_offBy_24 : decode cX10_offBy 24 = .ok (.aload_n 0, 1) := by decide +kernel
theorem dX10_offBy_25 : decode cX10_offBy 25 = .ok (.iload 4, 2) := by decide +kernel
theorem dX10_offBy_27 : decode cX10_offBy 27 = .ok (.iload_n 2, 1) := by decide +kernel
theorem dX10_offBy_28 : decode cX10_offBy 28 = .ok (.iload 4, 2) := by decide +kernel
theorem dX10_offBy_30 : decode cX10_offBy 30 = .ok (.ishr, 1) := by decide +kernel
theorem dX10_offBy_31 : decode cX10_offBy 31 = .ok (.iconst 1, 1) := by decide +kernel
theorem dX10_offBy_32 : decode cX10_offBy 32 = .ok (.iand, 1) := by decide +kernel
theorem dX10_offBy_33 : decode cX10_offBy 33 = .ok (.invokevirtual 108, 3) := by decide +kernel
theorem dX10_offBy_36 : decode cX10_offBy 36 = .ok (.iadd, 1) := by decide +kernel
theorem dX10_offBy_37 : decode cX10_offBy 37 = .ok (.istore_n 3, 1) := by decide +kernel
theorem dX10_offBy_38 : decode cX10_offBy 38 = .ok (.iinc 4 1, 3) := by decide +kernel
theorem dX10_offBy_41 : decode cX10_offBy 41 = .ok (.goto (-31), 3) := by decide +kernel
theorem dX10_offBy_44 : decode cX10_offBy 44 = .ok (.iload_n 3, 1) := by decide +kernel
theorem dX10_offBy_45 : decode cX10_offBy 45 = .ok (.ireturn, 1) := by decide +kernel
set_option maxRecDepth 20000 in
theorem ggX10_off_X10_ahead : GoodIn wsX10_off wsX10_ahead := goodIn_r _ [7, 8, 9, 28, 29, 30, 31, 32, 33, 34, 35, 36, 37, 38, 39, 40, 41, 42, 43, 44, 45, 46, 47, 48, 49, 50, 51, 52, 53, 54, 55, 56, 57, 58] (by decide +kernel) (by decide +kernel)
set_option maxRecDepth 20000 in
theorem gX10_off_X10_ahead : GoodIn wsX10_off (wsV RX10 102 RX10 yX10_ahead wsX10_ahead) := goodIn_app (goodIn_of _ (by decide +kernel)) ggX10_off_X10_ahead
set_option maxRecDepth 20000 in
theorem ggX10_off_X10_in : GoodIn wsX10_off wsX10_in := goodIn_r _ [12] (by decide +kernel) (by decide +kernel)
set_option maxRecDepth 20000 in
theorem gX10_off_X10_in : GoodIn wsX10_off (va_wsS RX10 63 yX10_in wsX10_in) := goodIn_app (goodIn_of _ (by decide +kernel)) ggX10_off_X10_in
set_option maxRecDepth 20000 in
theorem ggX10_off_X10_offBy : GoodIn wsX10_off wsX10_offBy := goodIn_r _ [16, 9, 17, 18, 19, 6, 20, 21, 22, 23, 24, 25, 26, 27, 28, 29, 30, 31, 32, 33, 34, 35, 36, 37, 38, 39, 40, 41, 42, 43, 44, 45, 46, 47, 48, 49, 50, 51, 52, 53, 54, 55, 56, 57, 58] (by decide +kernel) (by decide +kernel)
set_option maxRecDepth 20000 in
theorem gX10_off_X10_offBy : GoodIn wsX10_off (wsV RX10 123 RX10 yX10_offBy wsX10_offBy) := goodIn_app (goodIn_of _ (by decide +kernel)) ggX10_off_X10_offBy
theorem dX10_off_0 : decode cX10_off 0 = .ok (.aload_n 0, 1) := by decide +kernel
theorem dX10_off_1 : decode cX10_off 1 = .ok (.iconst 0, 1) := by decide +kernel
theorem dX10_off_2 : decode cX10_off 2 = .ok (.putfield 57, 3) := by decide +kernel
theorem dX10_off_5 : decode cX10_off 5 = .ok (.iload_n 1, 1) := by decide +kernel
theorem dX10_off_6 : decode cX10_off 6 = .ok (.i2l, 1) := by decide +kernel
theorem dX10_off_7 : decode cX10_off 7 = .ok (.lconst 0, 1) := by decide +kernel
theorem dX10_off_8 : decode cX10_off 8 = .ok (.aload_n 0, 1) := by decide +kernel
theorem dX10_off_9 : decode cX10_off 9 = .ok (.invokevirtual 102, 3) := by decide +kernel
theorem dX10_off_12 : decode cX10_off 12 = .ok (.i2l, 1) := by decide +kernel
theorem dX10_off_13 : decode cX10_off 13 = .ok (.invokestatic 63, 3) := by decide +kernel
theorem dX10_off_16 : decode cX10_off 16 = .ok (.ifCond .eq 15, 3) := by decide +kernel
theorem dX10_off_19 : decode cX10_off 19 = .ok (.iload_n 2, 1) := by decide +kernel
theorem dX10_off_20 : decode cX10_off 20 = .ok (.i2l, 1) := by decide +kernel
theorem dX10_off_21 : decode cX10_off 21 = .ok (.lconst 0, 1) := by decide +kernel
theorem dX10_off_22 : decode cX10_off 22 = .ok (.ldc2_w 67, 3) := by decide +kernel
theorem dX10_off_25 : decode cX10_off 25 = .ok (.invokestatic 63, 3) := by decide +kernel
theorem dX10_off_28 : decode cX10_off 28 = .ok (.ifCond .ne 8, 3) := by decide +kernel
theorem dX10_off_31 : decode cX10_off 31 = .ok (.bipush (-2), 2) := by decide +kernel
theorem dX10_off_33 : decode cX10_off 33 = .ok (.goto 13, 3) := by decide +kernel
theorem dX10_off_36 : decode cX10_off 36 = .ok (.aload_n 0, 1) := by decide +kernel
theorem dX10_off_37 : decode cX10_off 37 = .ok (.iload_n 1, 1) := by decide +kernel
theorem dX10_off_38 : decode cX10_off 38 = .ok (.iload_n 2, 1) := by decide +kernel
theorem dX10_off_39 : decode cX10_off 39 = .ok (.invokevirtual 123, 3) := by decide +kernel
theorem dX10_off_42 : decode cX10_off 42 = .ok (.sipush 20000, 3) := by decide +kernel
theorem dX10_off_45 : decode cX10_off 45 = .ok (.iadd, 1) := by decide +kernel
theorem dX10_off_46 : decode cX10_off 46 = .ok (.ireturn, 1) := by decide +kernel
theorem dX10_changesOf_0 : decode cX10_changesOf 0 = .ok (.aload_n 0, 1) := by decide +kernel
theorem dX10_changesOf_1 : decode cX10_changesOf 1 = .ok (.getfield 35, 3) := by decide +kernel
theorem dX10_changesOf_4 : decode cX10_changesOf 4 = .ok (.iconst 5, 1) := by decide +kernel
theorem dX10_changesOf_5 : decode cX10_changesOf 5 = .ok (.iaload, 1) := by decide +kernel
theorem dX10_changesOf_6 : decode cX10_changesOf 6 = .ok (.istore_n 3, 1) := by decide +kernel
theorem dX10_changesOf_7 : decode cX10_changesOf 7 = .ok (.iconst 0, 1) := by decide +kernel
theorem dX10_changesOf_8 : decode cX10_changesOf 8 = .ok (.istore 4, 2) := by decide +kernel
theorem dX10_changesOf_10 : decode cX10_changesOf 10 = .ok (.aload_n 0, 1) := by decide +kernel
theorem dX10_changesOf_11 : decode cX10_changesOf 11 = .ok (.getfield 35, 3) := by decide +kernel
theorem dX10_changesOf_14 : decode cX10_changesOf 14 = .ok (.iconst 0, 1) := by decide +kernel
theorem dX10_changesOf_15 : decode cX10_changesOf 15 = .ok (.iaload, 1) := by decide +kernel
theorem dX10_changesOf_16 : decode cX10_changesOf 16 = .ok (.istore 5, 2) := by decide +kernel
theorem dX10_changesOf_18 : decode cX10_changesOf 18 = .ok (.iload 5, 2) := by decide +kernel
theorem dX10_changesOf_20 : decode cX10_changesOf 20 = .ok (.aload_n 0, 1) := by decide +kernel
theorem dX10_changesOf_21 : decode cX10_changesOf 21 = .ok (.getfield 35, 3) := by decide +kernel
theorem dX10_changesOf_24 : decode cX10_changesOf 24 = .ok (.iconst 0, 1) := by decide +kernel
theorem dX10_changesOf_25 : decode cX10_changesOf 25 = .ok (.iaload, 1) := by decide +kernel
theorem dX10_changesOf_26 : decode cX10_changesOf 26 = .ok (.iload_n 1, 1) := by decide +kernel
theorem dX10_changesOf_27 : decode cX10_changesOf 27 = .ok (.iadd, 1) := by decide +kernel
theorem dX10_changesOf_28 : decode cX10_changesOf 28 = .ok (.if_icmp .ge 36, 3) := by decide +kernel
theorem dX10_changesOf_31 : decode cX10_changesOf 31 = .ok (.iload 4, 2) := by decide +kernel
theorem dX10_changesOf_33 : decode cX10_changesOf 33 = .ok (.iload_n 2, 1) := by decide +kernel
theorem dX10_changesOf_34 : decode cX10_changesOf 34 = .ok (.iload 5, 2) := by decide +kernel
theorem dX10_changesOf_36 : decode cX10_changesOf 36 = .ok (.ishr, 1) := by decide +kernel
theorem dX10_changesOf_37 : decode cX10_changesOf 37 = .ok (.iconst 1, 1) := by decide +kernel
theorem dX10_changesOf_38 : decode cX10_changesOf 38 = .ok (.iand, 1) := by decide +kernel
theorem dX10_changesOf_39 : decode cX10_changesOf 39 = .ok (.iload_n 3, 1) := by decide +kernel
theorem dX10_changesOf_40 : decode cX10_changesOf 40 = .ok (.if_icmp .ne 7, 3) := by decide +kernel
theorem dX10_changesOf_43 : decode cX10_changesOf 43 = .ok (.iconst 0, 1) := by decide +kernel
theorem dX10_changesOf_44 : decode cX10_changesOf 44 = .ok (.goto 4, 3) := by decide +kernel
theorem dX10_changesOf_47 : decode cX10_changesOf 47 = .ok (.iconst 1, 1) := by decide +kernel
theorem dX10_changesOf_48 : decode cX10_changesOf 48 = .ok (.iadd, 1) := by decide +kernel
theorem dX10_changesOf_49 : decode cX10_changesOf 49 = .ok (.istore 4, 2) := by decide +kernel
theorem dX10_changesOf_51 : decode cX10_changesOf 51 = .ok (.iload_n 2, 1) := by decide +kernel
theorem dX10_changesOf_52 : decode cX10_changesOf 52 = .ok (.iload 5, 2) := by decide +kernel
theorem dX10_changesOf_54 : decode cX10_changesOf 54 = .ok (.ishr, 1) := by decide +kernel
theorem dX10_changesOf_55 : decode cX10_changesOf 55 = .ok (.iconst 1, 1) := by decide +kernel
theorem dX10_changesOf_56 : decode cX10_changesOf 56 = .ok (.iand, 1) := by decide +kernel
theorem dX10_changesOf_57 : decode cX10_changesOf 57 = .ok (.istore_n 3, 1) := by decide +kernel
theorem dX10_changesOf_58 : decode cX10_changesOf 58 = .ok (.iinc 5 1, 3) := by decide +kernel
theorem dX10_changesOf_61 : decode cX10_changesOf 61 = .ok (.goto (-43), 3) := by decide +kernel
theorem dX10_changesOf_64 : decode cX10_changesOf 64 = .ok (.iload 4, 2) := by decide +kernel
theorem dX10_changesOf_66 : decode cX10_changesOf 66 = .ok (.ireturn, 1) := by decide +kernel
set_option maxRecDepth 20000 in
theorem ggX10_findEnds_X10_offBy : GoodIn wsX10_findEnds wsX10_offBy := goodIn_r _ [8, 1, 9, 10, 11, 7, 12, 13, 14, 15, 16, 17, 18, 19, 27, 28, 29, 30, 31, 32, 33, 34, 35, 36, 37, 38, 39, 40, 41, 42, 43, 44, 45, 46, 47, 48, 49, 50, 51, 52, 53, 54, 55, 56, 57] (by decide +kernel) (by decide +kernel)
set_option maxRecDepth 20000 in
theorem gX10_findEnds_X10_offBy : GoodIn wsX10_findEnds (wsV RX10 123 RX10 yX10_offBy wsX10_offBy) := goodIn_app (goodIn_of _ (by decide +kernel)) ggX10_findEnds_X10_offBy
set_option maxRecDepth 20000 in
theorem ggX10_findEnds_X10_size : GoodIn wsX10_findEnds wsX10_size := goodIn_r _ [22] (by decide +kernel) (by decide +kernel)
set_option maxRecDepth 20000 in
theorem gX10_findEnds_X10_size : GoodIn wsX10_findEnds (va_wsS RX10 132 yX10_size wsX10_size) := goodIn_app (goodIn_of _ (by decide +kernel)) ggX10_findEnds_X10_size
set_option maxRecDepth 20000 in
theorem ggX10_findEnds_X10_changesOf : GoodIn wsX10_findEnds wsX10_changesOf := goodIn_r _ [26, 1, 27, 28, 29, 30, 31, 32, 33, 34, 35, 36, 37, 38, 39, 40, 41, 42, 43, 44, 45, 46, 47, 48, 49, 50, 51, 52, 53, 54, 55, 56, 57] (by decide +kernel) (by decide +kernel)
set_option maxRecDepth 20000 in
theorem gX10_findEnds_X10_changesOf : GoodIn wsX10_findEnds (wsV RX10 136 RX10 yX10_changesOf wsX10_changesOf) := goodIn_app (goodIn_of _ (by decide +kernel)) ggX10_findEnds_X10_changesOf
theorem dX10_findEnds_0 : decode cX10_findEnds 0 = .ok (.iconst 1, 1) := by decide +kernel
theorem dX10_findEnds_1 : decode cX10_findEnds 1 = .ok (.aload_n 0, 1) := by decide +kernel
theorem dX10_findEnds_2 : decode cX10_findEnds 2 = .ok (.getfield 35, 3) := by decide +kernel
theorem dX10_findEnds_5 : decode cX10_findEnds 5 = .ok (.iconst 0, 1) := by decide +kernel
theorem dX10_findEnds_6 : decode cX10_findEnds 6 = .ok (.iaload, 1) := by decide +kernel
theorem dX10_findEnds_7 : decode cX10_findEnds 7 = .ok (.iload_n 1, 1) := by decide +kernel
theorem dX10_findEnds_8 : decode cX10_findEnds 8 = .ok (.iadd, 1) := by decide +kernel
theorem dX10_findEnds_9 : decode cX10_findEnds 9 = .ok (.ishl, 1) := by decide +kernel
theorem dX10_findEnds_10 : decode cX10_findEnds 10 = .ok (.iconst 1, 1) := by decide +kernel
theorem dX10_findEnds_11 : decode cX10_findEnds 11 = .ok (.aload_n 0, 1) := by decide +kernel
theorem dX10_findEnds_12 : decode cX10_findEnds 12 = .ok (.getfield 35, 3) := by decide +kernel
theorem dX10_findEnds_15 : decode cX10_findEnds 15 = .ok (.iconst 0, 1) := by decide +kernel
theorem dX10_findEnds_16 : decode cX10_findEnds 16 = .ok (.iaload, 1) := by decide +kernel
theorem dX10_findEnds_17 : decode cX10_findEnds 17 = .ok (.ishl, 1) := by decide +kernel
theorem dX10_findEnds_18 : decode cX10_findEnds 18 = .ok (.isub, 1) := by decide +kernel
theorem dX10_findEnds_19 : decode cX10_findEnds 19 = .ok (.istore_n 2, 1) := by decide +kernel
theorem dX10_findEnds_20 : decode cX10_findEnds 20 = .ok (.aload_n 0, 1) := by decide +kernel
theorem dX10_findEnds_21 : decode cX10_findEnds 21 = .ok (.bipush (-9), 2) := by decide +kernel
theorem dX10_findEnds_23 : decode cX10_findEnds 23 = .ok (.putfield 126, 3) := by decide +kernel
theorem dX10_findEnds_26 : decode cX10_findEnds 26 = .ok (.aload_n 0, 1) := by decide +kernel
theorem dX10_findEnds_27 : decode cX10_findEnds 27 = .ok (.iconst 0, 1) := by decide +kernel
theorem dX10_findEnds_28 : decode cX10_findEnds 28 = .ok (.putfield 129, 3) := by decide +kernel
theorem dX10_findEnds_31 : decode cX10_findEnds 31 = .ok (.iconst 0, 1) := by decide +kernel
theorem dX10_findEnds_32 : decode cX10_findEnds 32 = .ok (.istore_n 3, 1) := by decide +kernel
theorem dX10_findEnds_33 : decode cX10_findEnds 33 = .ok (.iload_n 3, 1) := by decide +kernel
theorem dX10_findEnds_34 : decode cX10_findEnds 34 = .ok (.iload_n 2, 1) := by decide +kernel
theorem dX10_findEnds_35 : decode cX10_findEnds 35 = .ok (.if_icmp .gt 124, 3) := by decide +kernel
theorem dX10_findEnds_38 : decode cX10_findEnds 38 = .ok (.iload_n 3, 1) := by decide +kernel
theorem dX10_findEnds_39 : decode cX10_findEnds 39 = .ok (.iload_n 2, 1) := by decide +kernel
theorem dX10_findEnds_40 : decode cX10_findEnds 40 = .ok (.iconst (-1), 1) := by decide +kernel
theorem dX10_findEnds_41 : decode cX10_findEnds 41 = .ok (.ixor, 1) := by decide +kernel
theorem dX10_findEnds_42 : decode cX10_findEnds 42 = .ok (.iand, 1) := by decide +kernel
theorem dX10_findEnds_43 : decode cX10_findEnds 43 = .ok (.ifCond .ne 110, 3) := by decide +kernel
theorem dX10_findEnds_46 : decode cX10_findEnds 46 = .ok (.aload_n 0, 1) := by decide +kernel
theorem dX10_findEnds_47 : decode cX10_findEnds 47 = .ok (.iload_n 1, 1) := by decide +kernel
theorem dX10_findEnds_48 : decode cX10_findEnds 48 = .ok (.iload_n 3, 1) := by decide +kernel
theorem dX10_findEnds_49 : decode cX10_findEnds 49 = .ok (.invokevirtual 123, 3) := by decide +kernel
theorem dX10_findEnds_52 : decode cX10_findEnds 52 = .ok (.istore 4, 2) := by decide +kernel
theorem dX10_findEnds_54 : decode cX10_findEnds 54 = .ok (.aload_n 0, 1) := by decide +kernel
theorem dX10_findEnds_55 : decode cX10_findEnds 55 = .ok (.getfield 126, 3) := by decide +kernel
theorem dX10_findEnds_58 : decode cX10_findEnds 58 = .ok (.bipush (-9), 2) := by decide +kernel
theorem dX10_findEnds_60 : decode cX10_findEnds 60 = .ok (.if_icmp .eq 51, 3) := by decide +kernel
theorem dX10_findEnds_63 : decode cX10_findEnds 63 = .ok (.iload 4, 2) := by decide +kernel
theorem dX10_findEnds_65 : decode cX10_findEnds 65 = .ok (.invokestatic 132, 3) := by decide +kernel
theorem dX10_findEnds_68 : decode cX10_findEnds 68 = .ok (.aload_n 0, 1) := by decide +kernel
theorem dX10_findEnds_69 : decode cX10_findEnds 69 = .ok (.getfield 129, 3) := by decide +kernel
theorem dX10_findEnds_72 : decode cX10_findEnds 72 = .ok (.invokestatic 132, 3) := by decide +kernel
theorem dX10_findEnds_75 : decode cX10_findEnds 75 = .ok (.if_icmp .lt 36, 3) := by decide +kernel
theorem dX10_findEnds_78 : decode cX10_findEnds 78 = .ok (.iload 4, 2) := by decide +kernel
theorem dX10_findEnds_80 : decode cX10_findEnds 80 = .ok (.invokestatic 132, 3) := by decide +kernel
theorem dX10_findEnds_83 : decode cX10_findEnds 83 = .ok (.aload_n 0, 1) := by decide +kernel
theorem dX10_findEnds_84 : decode cX10_findEnds 84 = .ok (.getfield 129, 3) := by decide +kernel
theorem dX10_findEnds_87 : decode cX10_findEnds 87 = .ok (.invokestatic 132, 3) := by decide +kernel
theorem dX10_findEnds_90 : decode cX10_findEnds 90 = .ok (.if_icmp .ne 25, 3) := by decide +kernel
theorem dX10_findEnds_93 : decode cX10_findEnds 93 = .ok (.aload_n 0, 1) := by decide +kernel
theorem dX10_findEnds_94 : decode cX10_findEnds 94 = .ok (.iload_n 1, 1) := by decide +kernel
theorem dX10_findEnds_95 : decode cX10_findEnds 95 = .ok (.iload_n 3, 1) := by decide +kernel
theorem dX10_findEnds_96 : decode cX10_findEnds 96 = .ok (.invokevirtual 136, 3) := by decide +kernel
theorem dX10_findEnds_99 : decode cX10_findEnds 99 = .ok (.aload_n 0, 1) := by decide +kernel
theorem dX10_findEnds_100 : decode cX10_findEnds 100 = .ok (.iload_n 1, 1) := by decide +kernel
theorem dX10_findEnds_101 : decode cX10_findEnds 101 = .ok (.aload_n 0, 1) := by decide +kernel
theorem dX10_findEnds_102 : decode cX10_findEnds 102 = .ok (.getfield 126, 3) := by decide +kernel
theorem dX10_findEnds_105 : decode cX10_findEnds 105 = .ok (.invokevirtual 136, 3) := by decide +kernel
theorem dX10_findEnds_108 : decode cX10_findEnds 108 = .ok (.if_icmp .ge 7, 3) := by decide +kernel
theorem dX10_findEnds_111 : decode cX10_findEnds 111 = .ok (.iconst 1, 1) := by decide +kernel
theorem dX10_findEnds_112 : decode cX10_findEnds 112 = .ok (.goto 4, 3) := by decide +kernel
theorem dX10_findEnds_115 : decode cX10_findEnds 115 = .ok (.iconst 0, 1) := by decide +kernel
theorem dX10_findEnds_116 : decode cX10_findEnds 116 = .ok (.istore 5, 2) := by decide +kernel
theorem dX10_findEnds_118 : decode cX10_findEnds 118 = .ok (.aload_n 0, 1) := by decide +kernel
theorem dX10_findEnds_119 : decode cX10_findEnds 119 = .ok (.iload 5, 2) := by decide +kernel
theorem dX10_findEnds_121 : decode cX10_findEnds 121 = .ok (.ifCond .eq 7, 3) := by decide +kernel
theorem dX10_findEnds_124 : decode cX10_findEnds 124 = .ok (.iload_n 3, 1) := by decide +kernel
theorem dX10_findEnds_125 : decode cX10_findEnds 125 = .ok (.goto 7, 3) := by decide +kernel
theorem dX10_findEnds_128 : decode cX10_findEnds 128 = .ok (.aload_n 0, 1) := by decide +kernel
theorem dX10_findEnds_129 : decode cX10_findEnds 129 = .ok (.getfield 126, 3) := by decide +kernel
theorem dX10_findEnds_132 : decode cX10_findEnds 132 = .ok (.putfield 126, 3) := by decide +kernel
theorem dX10_findEnds_135 : decode cX10_findEnds 135 = .ok (.aload_n 0, 1) := by decide +kernel
theorem dX10_findEnds_136 : decode cX10_findEnds 136 = .ok (.iload 5, 2) := by decide +kernel
theorem dX10_findEnds_138 : decode cX10_findEnds 138 = .ok (.ifCond .eq 8, 3) := by decide +kernel
theorem dX10_findEnds_141 : decode cX10_findEnds 141 = .ok (.iload 4, 2) := by decide +kernel
theorem dX10_findEnds_143 : decode cX10_findEnds 143 = .ok (.goto 7, 3) := by decide +kernel
theorem dX10_findEnds_146 : decode cX10_findEnds 146 = .ok (.aload_n 0, 1) := by decide +kernel
theorem dX10_findEnds_147 : decode cX10_findEnds 147 = .ok (.getfield 129, 3) := by decide +kernel
theorem dX10_findEnds_150 : decode cX10_findEnds 150 = .ok (.putfield 129, 3) := by decide +kernel
theorem dX10_findEnds_153 : decode cX10_findEnds 153 = .ok (.iinc 3 1, 3) := by decide +kernel
theorem dX10_findEnds_156 : decode cX10_findEnds 156 = .ok (.goto (-123), 3) := by decide +kernel
theorem dX10_findEnds_159 : decode cX10_findEnds 159 = .ok (.return_, 1) := by decide +kernel
set_option maxRecDepth 20000 in
theorem ggX10_ends_X10_ahead : GoodIn wsX10_ends wsX10_ahead := goodIn_r _ [8, 9, 10, 40, 41, 42, 43, 44, 45, 46, 47, 48, 49, 50, 51, 52, 53, 54, 55, 56, 57, 58, 59, 60, 61, 62, 63, 64, 65, 66, 67, 68, 69, 70] (by decide +kernel) (by decide +kernel)
set_option maxRecDepth 20000 in
theorem gX10_ends_X10_ahead : GoodIn wsX10_ends (wsV RX10 102 RX10 yX10_ahead wsX10_ahead) := goodIn_app (goodIn_of _ (by decide +kernel)) ggX10_ends_X10_ahead
set_option maxRecDepth 20000 in
theorem ggX10_ends_X10_in : GoodIn wsX10_ends wsX10_in := goodIn_r _ [13] (by decide +kernel) (by decide +kernel)
set_option maxRecDepth 20000 in
theorem gX10_ends_X10_in : GoodIn wsX10_ends (va_wsS RX10 63 yX10_in wsX10_in) := goodIn_app (goodIn_of _ (by decide +kernel)) ggX10_ends_X10_in
set_option maxRecDepth 20000 in
theorem ggX10_ends_X10_findEnds : GoodIn wsX10_ends wsX10_findEnds := goodIn_r _ [17, 10, 2, 3, 18, 19, 20, 7, 21, 22, 23, 24, 25, 26, 27, 28, 29, 30, 31, 32, 33, 34, 35, 36, 37, 38, 39, 40, 41, 42, 43, 44, 45, 46, 47, 48, 49, 50, 51, 52, 53, 54, 55, 56, 57, 58, 59, 60, 61, 62, 63, 64, 65, 66, 67, 68, 69, 70] (by decide +kernel) (by decide +kernel)
set_option maxRecDepth 20000 in
theorem gX10_ends_X10_findEnds : GoodIn wsX10_ends (wsV RX10 139 RX10 yX10_findEnds wsX10_findEnds) := goodIn_app (goodIn_of _ (by decide +kernel)) ggX10_ends_X10_findEnds
theorem dX10_ends_0 : decode cX10_ends 0 = .ok (.aload_n 0, 1) := by decide +kernel
theorem dX10_ends_1 : decode cX10_ends 1 = .ok (.iconst 0, 1) := by decide +kernel
theorem dX10_ends_2 : decode cX10_ends 2 = .ok (.putfield 57, 3) := by decide +kernel
theorem dX10_ends_5 : decode cX10_ends 5 = .ok (.iload_n 1, 1) := by decide +kernel
theorem dX10_ends_6 : decode cX10_ends 6 = .ok (.i2l, 1) := by decide +kernel
theorem dX10_ends_7 : decode cX10_ends 7 = .ok (.lconst 0, 1) := by decide +kernel
theorem dX10_ends_8 : decode cX10_ends 8 = .ok (.aload_n 0, 1) := by decide +kernel
theorem dX10_ends_9 : decode cX10_ends 9 = .ok (.invokevirtual 102, 3) := by decide +kernel
theorem dX10_ends_12 : decode cX10_ends 12 = .ok (.i2l, 1) := by decide +kernel
theorem dX10_ends_13 : decode cX10_ends 13 = .ok (.invokestatic 63, 3) := by decide +kernel
theorem dX10_ends_16 : decode cX10_ends 16 = .ok (.ifCond .eq 13, 3) := by decide +kernel
theorem dX10_ends_19 : decode cX10_ends 19 = .ok (.iload_n 2, 1) := by decide +kernel
theorem dX10_ends_20 : decode cX10_ends 20 = .ok (.i2l, 1) := by decide +kernel
theorem dX10_ends_21 : decode cX10_ends 21 = .ok (.lconst 0, 1) := by decide +kernel
theorem dX10_ends_22 : decode cX10_ends 22 = .ok (.lconst 1, 1) := by decide +kernel
theorem dX10_ends_23 : decode cX10_ends 23 = .ok (.invokestatic 63, 3) := by decide +kernel
theorem dX10_ends_26 : decode cX10_ends 26 = .ok (.ifCond .ne 6, 3) := by decide +kernel
theorem dX10_ends_29 : decode cX10_ends 29 = .ok (.bipush (-2), 2) := by decide +kernel
theorem dX10_ends_31 : decode cX10_ends 31 = .ok (.ireturn, 1) := by decide +kernel
theorem dX10_ends_32 : decode cX10_ends 32 = .ok (.aload_n 0, 1) := by decide +kernel
theorem dX10_ends_33 : decode cX10_ends 33 = .ok (.iload_n 1, 1) := by decide +kernel
theorem dX10_ends_34 : decode cX10_ends 34 = .ok (.invokevirtual 139, 3) := by decide +kernel
theorem dX10_ends_37 : decode cX10_ends 37 = .ok (.iload_n 2, 1) := by decide +kernel
theorem dX10_ends_38 : decode cX10_ends 38 = .ok (.ifCond .ne 10, 3) := by decide +kernel
theorem dX10_ends_41 : decode cX10_ends 41 = .ok (.aload_n 0, 1) := by decide +kernel
theorem dX10_ends_42 : decode cX10_ends 42 = .ok (.getfield 126, 3) := by decide +kernel
theorem dX10_ends_45 : decode cX10_ends 45 = .ok (.goto 11, 3) := by decide +kernel
theorem dX10_ends_48 : decode cX10_ends 48 = .ok (.aload_n 0, 1) := by decide +kernel
theorem dX10_ends_49 : decode cX10_ends 49 = .ok (.getfield 129, 3) := by decide +kernel
theorem dX10_ends_52 : decode cX10_ends 52 = .ok (.sipush 20000, 3) := by decide +kernel
theorem dX10_ends_55 : decode cX10_ends 55 = .ok (.iadd, 1) := by decide +kernel
theorem dX10_ends_56 : decode cX10_ends 56 = .ok (.ireturn, 1) := by decide +kernel
set_option maxRecDepth 20000 in
theorem ggX10_step_X10_in : GoodIn wsX10_step wsX10_in := goodIn_r _ [9] (by decide +kernel) (by decide +kernel)
set_option maxRecDepth 20000 in
theorem gX10_step_X10_in : GoodIn wsX10_step (va_wsS RX10 63 yX10_in wsX10_in) := goodIn_app (goodIn_of _ (by decide +kernel)) ggX10_step_X10_in
set_option maxRecDepth 20000 in
theorem ggX10_step_X10_errorOf : GoodIn wsX10_step wsX10_errorOf := goodIn_r _ [13, 3, 5, 14, 15, 16, 17, 8, 18, 19, 29, 30, 31, 32, 33, 34, 35, 36, 37, 38, 39, 40, 41, 42, 43, 44, 45, 46, 47, 48, 49, 50, 51, 52, 53, 54, 55, 56, 57, 58, 59] (by decide +kernel) (by decide +kernel)
set_option maxRecDepth 20000 in
theorem gX10_step_X10_errorOf : GoodIn wsX10_step (wsV RX10 108 RX10 yX10_errorOf wsX10_errorOf) := goodIn_app (goodIn_of _ (by decide +kernel)) ggX10_step_X10_errorOf
set_option maxRecDepth 20000 in
theorem ggX10_step_X10_many : GoodIn wsX10_step wsX10_many := goodIn_r _ [22] (by decide +kernel) (by decide +kernel)
set_option maxRecDepth 20000 in
theorem gX10_step_X10_many : GoodIn wsX10_step (va_wsS RX10 145 yX10_many wsX10_many) := goodIn_app (goodIn_of _ (by decide +kernel)) ggX10_step_X10_many
set_option maxRecDepth 20000 in
theorem ggX10_step_X10_has : GoodIn wsX10_step wsX10_has := goodIn_r _ [25] (by decide +kernel) (by decide +kernel)
set_option maxRecDepth 20000 in
theorem gX10_step_X10_has : GoodIn wsX10_step (va_wsS RX10 111 yX10_has wsX10_has) := goodIn_app (goodIn_of _ (by decide +kernel)) ggX10_step_X10_has
set_option maxRecDepth 20000 in
theorem ggX10_step_X10_ground : GoodIn wsX10_step wsX10_ground := goodIn_r _ [18, 19, 29, 30, 31, 32, 33, 34, 35, 36, 37, 38, 39, 40, 41, 42, 43, 44, 45, 46, 47, 48, 49, 50, 51, 52, 53, 54, 55, 56, 57, 58, 59] (by decide +kernel) (by decide +kernel)
set_option maxRecDepth 20000 in
theorem gX10_step_X10_ground : GoodIn wsX10_step (wsV RX10 92 RX10 yX10_ground wsX10_ground) := goodIn_app (goodIn_of _ (by decide +kernel)) ggX10_step_X10_ground
set_option maxRecDepth 20000 in
theorem ggX10_step_X10_size : GoodIn wsX10_step wsX10_size := goodIn_r _ [28] (by decide +kernel) (by decide +kernel)
set_option maxRecDepth 20000 in
theorem gX10_step_X10_size : GoodIn wsX10_step (va_wsS RX10 132 yX10_size wsX10_size) := goodIn_app (goodIn_of _ (by decide +kernel)) ggX10_step_X10_size
theorem dX10_step_0 : decode cX10_step 0 = .ok (.aload_n 0, 1) := by decide +kernel
theorem dX10_step_1 : decode cX10_step 1 = .ok (.iconst 0, 1) := by decide +kernel
theorem dX10_step_2 : decode cX10_step 2 = .ok (.putfield 57, 3) := by decide +kernel
theorem dX10_step_5 : decode cX10_step 5 = .ok (.iload_n 1, 1) := by decide +kernel
theorem dX10_step_6 : decode cX10_step 6 = .ok (.i2l, 1) := by decide +kernel
theorem dX10_step_7 : decode cX10_step 7 = .ok (.lconst 0, 1) := by decide +kernel
theorem dX10_step_8 : decode cX10_step 8 = .ok (.ldc2_w 143, 3) := by decide +kernel
theorem dX10_step_11 : decode cX10_step 11 = .ok (.invokestatic 63, 3) := by decide +kernel
theorem dX10_step_14 : decode cX10_step 14 = .ok (.ifCond .ne 6, 3) := by decide +kernel
theorem dX10_step_17 : decode cX10_step 17 = .ok (.bipush (-2), 2) := by decide +kernel
theorem dX10_step_19 : decode cX10_step 19 = .ok (.ireturn, 1) := by decide +kernel
theorem dX10_step_20 : decode cX10_step 20 = .ok (.iconst 0, 1) := by decide +kernel
theorem dX10_step_21 : decode cX10_step 21 = .ok (.istore_n 2, 1) := by decide +kernel
theorem dX10_step_22 : decode cX10_step 22 = .ok (.iconst 0, 1) := by decide +kernel
theorem dX10_step_23 : decode cX10_step 23 = .ok (.istore_n 3, 1) := by decide +kernel
theorem dX10_step_24 : decode cX10_step 24 = .ok (.aload_n 0, 1) := by decide +kernel
theorem dX10_step_25 : decode cX10_step 25 = .ok (.getfield 35, 3) := by decide +kernel
theorem dX10_step_28 : decode cX10_step 28 = .ok (.iconst 0, 1) := by decide +kernel
theorem dX10_step_29 : decode cX10_step 29 = .ok (.iaload, 1) := by decide +kernel
theorem dX10_step_30 : decode cX10_step 30 = .ok (.istore 4, 2) := by decide +kernel
theorem dX10_step_32 : decode cX10_step 32 = .ok (.iload 4, 2) := by decide +kernel
theorem dX10_step_34 : decode cX10_step 34 = .ok (.aload_n 0, 1) := by decide +kernel
theorem dX10_step_35 : decode cX10_step 35 = .ok (.getfield 60, 3) := by decide +kernel
theorem dX10_step_38 : decode cX10_step 38 = .ok (.if_icmp .ge 46, 3) := by decide +kernel
theorem dX10_step_41 : decode cX10_step 41 = .ok (.iload_n 2, 1) := by decide +kernel
theorem dX10_step_42 : decode cX10_step 42 = .ok (.aload_n 0, 1) := by decide +kernel
theorem dX10_step_43 : decode cX10_step 43 = .ok (.getfield 20, 3) := by decide +kernel
theorem dX10_step_46 : decode cX10_step 46 = .ok (.iload 4, 2) := by decide +kernel
theorem dX10_step_48 : decode cX10_step 48 = .ok (.iaload, 1) := by decide +kernel
theorem dX10_step_49 : decode cX10_step 49 = .ok (.iconst 1, 1) := by decide +kernel
theorem dX10_step_50 : decode cX10_step 50 = .ok (.if_icmp .ne 10, 3) := by decide +kernel
theorem dX10_step_53 : decode cX10_step 53 = .ok (.iconst 1, 1) := by decide +kernel
theorem dX10_step_54 : decode cX10_step 54 = .ok (.iload 4, 2) := by decide +kernel
theorem dX10_step_56 : decode cX10_step 56 = .ok (.ishl, 1) := by decide +kernel
theorem dX10_step_57 : decode cX10_step 57 = .ok (.goto 4, 3) := by decide +kernel
theorem dX10_step_60 : decode cX10_step 60 = .ok (.iconst 0, 1) := by decide +kernel
theorem dX10_step_61 : decode cX10_step 61 = .ok (.ior, 1) := by decide +kernel
theorem dX10_step_62 : decode cX10_step 62 = .ok (.istore_n 2, 1) := by decide +kernel
theorem dX10_step_63 : decode cX10_step 63 = .ok (.iload_n 3, 1) := by decide +kernel
theorem dX10_step_64 : decode cX10_step 64 = .ok (.aload_n 0, 1) := by decide +kernel
theorem dX10_step_65 : decode cX10_step 65 = .ok (.iload 4, 2) := by decide +kernel
theorem dX10_step_67 : decode cX10_step 67 = .ok (.aload_n 0, 1) := by decide +kernel
theorem dX10_step_68 : decode cX10_step 68 = .ok (.getfield 35, 3) := by decide +kernel
theorem dX10_step_71 : decode cX10_step 71 = .ok (.iconst 5, 1) := by decide +kernel
theorem dX10_step_72 : decode cX10_step 72 = .ok (.iaload, 1) := by decide +kernel
theorem dX10_step_73 : decode cX10_step 73 = .ok (.invokevirtual 108, 3) := by decide +kernel
theorem dX10_step_76 : decode cX10_step 76 = .ok (.iadd, 1) := by decide +kernel
theorem dX10_step_77 : decode cX10_step 77 = .ok (.istore_n 3, 1) := by decide +kernel
theorem dX10_step_78 : decode cX10_step 78 = .ok (.iinc 4 1, 3) := by decide +kernel
theorem dX10_step_81 : decode cX10_step 81 = .ok (.goto (-49), 3) := by decide +kernel
theorem dX10_step_84 : decode cX10_step 84 = .ok (.bipush (-9), 2) := by decide +kernel
theorem dX10_step_86 : decode cX10_step 86 = .ok (.istore 4, 2) := by decide +kernel
theorem dX10_step_88 : decode cX10_step 88 = .ok (.iconst 0, 1) := by decide +kernel
theorem dX10_step_89 : decode cX10_step 89 = .ok (.istore 5, 2) := by decide +kernel
theorem dX10_step_91 : decode cX10_step 91 = .ok (.iload 5, 2) := by decide +kernel
theorem dX10_step_93 : decode cX10_step 93 = .ok (.iload_n 2, 1) := by decide +kernel
theorem dX10_step_94 : decode cX10_step 94 = .ok (.if_icmp .gt 111, 3) := by decide +kernel
theorem dX10_step_97 : decode cX10_step 97 = .ok (.iload 5, 2) := by decide +kernel
theorem dX10_step_99 : decode cX10_step 99 = .ok (.iload_n 2, 1) := by decide +kernel
theorem dX10_step_100 : decode cX10_step 100 = .ok (.iconst (-1), 1) := by decide +kernel
theorem dX10_step_101 : decode cX10_step 101 = .ok (.ixor, 1) := by decide +kernel
theorem dX10_step_102 : decode cX10_step 102 = .ok (.iand, 1) := by decide +kernel
theorem dX10_step_103 : decode cX10_step 103 = .ok (.ifCond .ne 96, 3) := by decide +kernel
theorem dX10_step_106 : decode cX10_step 106 = .ok (.iload 4, 2) := by decide +kernel
theorem dX10_step_108 : decode cX10_step 108 = .ok (.bipush (-9), 2) := by decide +kernel
theorem dX10_step_110 : decode cX10_step 110 = .ok (.if_icmp .eq 16, 3) := by decide +kernel
theorem dX10_step_113 : decode cX10_step 113 = .ok (.iload 5, 2) := by decide +kernel
theorem dX10_step_115 : decode cX10_step 115 = .ok (.invokestatic 145, 3) := by decide +kernel
theorem dX10_step_118 : decode cX10_step 118 = .ok (.iload 4, 2) := by decide +kernel
theorem dX10_step_120 : decode cX10_step 120 = .ok (.invokestatic 145, 3) := by decide +kernel
theorem dX10_step_123 : decode cX10_step 123 = .ok (.if_icmp .ge 76, 3) := by decide +kernel
theorem dX10_step_126 : decode cX10_step 126 = .ok (.iload_n 3, 1) := by decide +kernel
theorem dX10_step_127 : decode cX10_step 127 = .ok (.istore 6, 2) := by decide +kernel
theorem dX10_step_129 : decode cX10_step 129 = .ok (.iconst 0, 1) := by decide +kernel
theorem dX10_step_130 : decode cX10_step 130 = .ok (.istore 7, 2) := by decide +kernel
theorem dX10_step_132 : decode cX10_step 132 = .ok (.iload 7, 2) := by decide +kernel
theorem dX10_step_134 : decode cX10_step 134 = .ok (.aload_n 0, 1) := by decide +kernel
theorem dX10_step_135 : decode cX10_step 135 = .ok (.getfield 60, 3) := by decide +kernel
theorem dX10_step_138 : decode cX10_step 138 = .ok (.if_icmp .ge 43, 3) := by decide +kernel
theorem dX10_step_141 : decode cX10_step 141 = .ok (.iload 6, 2) := by decide +kernel
theorem dX10_step_143 : decode cX10_step 143 = .ok (.iload 5, 2) := by decide +kernel
theorem dX10_step_145 : decode cX10_step 145 = .ok (.iload 7, 2) := by decide +kernel
theorem dX10_step_147 : decode cX10_step 147 = .ok (.invokestatic 111, 3) := by decide +kernel
theorem dX10_step_150 : decode cX10_step 150 = .ok (.ifCond .eq 21, 3) := by decide +kernel
theorem dX10_step_153 : decode cX10_step 153 = .ok (.aload_n 0, 1) := by decide +kernel
theorem dX10_step_154 : decode cX10_step 154 = .ok (.iload 7, 2) := by decide +kernel
theorem dX10_step_156 : decode cX10_step 156 = .ok (.iconst 2, 1) := by decide +kernel
theorem dX10_step_157 : decode cX10_step 157 = .ok (.invokevirtual 92, 3) := by decide +kernel
theorem dX10_step_160 : decode cX10_step 160 = .ok (.aload_n 0, 1) := by decide +kernel
theorem dX10_step_161 : decode cX10_step 161 = .ok (.iload 7, 2) := by decide +kernel
theorem dX10_step_163 : decode cX10_step 163 = .ok (.iconst 1, 1) := by decide +kernel
theorem dX10_step_164 : decode cX10_step 164 = .ok (.invokevirtual 92, 3) := by decide +kernel
theorem dX10_step_167 : decode cX10_step 167 = .ok (.isub, 1) := by decide +kernel
theorem dX10_step_168 : decode cX10_step 168 = .ok (.goto 4, 3) := by decide +kernel
theorem dX10_step_171 : decode cX10_step 171 = .ok (.iconst 0, 1) := by decide +kernel
theorem dX10_step_172 : decode cX10_step 172 = .ok (.iadd, 1) := by decide +kernel
theorem dX10_step_173 : decode cX10_step 173 = .ok (.istore 6, 2) := by decide +kernel
theorem dX10_step_175 : decode cX10_step 175 = .ok (.iinc 7 1, 3) := by decide +kernel
theorem dX10_step_178 : decode cX10_step 178 = .ok (.goto (-46), 3) := by decide +kernel
theorem dX10_step_181 : decode cX10_step 181 = .ok (.iload 6, 2) := by decide +kernel
theorem dX10_step_183 : decode cX10_step 183 = .ok (.invokestatic 132, 3) := by decide +kernel
theorem dX10_step_186 : decode cX10_step 186 = .ok (.iload_n 1, 1) := by decide +kernel
theorem dX10_step_187 : decode cX10_step 187 = .ok (.if_icmp .gt 8, 3) := by decide +kernel
theorem dX10_step_190 : decode cX10_step 190 = .ok (.iload 5, 2) := by decide +kernel
theorem dX10_step_192 : decode cX10_step 192 = .ok (.goto 5, 3) := by decide +kernel
theorem dX10_step_195 : decode cX10_step 195 = .ok (.iload 4, 2) := by decide +kernel
theorem dX10_step_197 : decode cX10_step 197 = .ok (.istore 4, 2) := by decide +kernel
theorem dX10_step_199 : decode cX10_step 199 = .ok (.iinc 5 1, 3) := by decide +kernel
theorem dX10_step_202 : decode cX10_step 202 = .ok (.goto (-111), 3) := by decide +kernel
theorem dX10_step_205 : decode cX10_step 205 = .ok (.iload 4, 2) := by decide +kernel
theorem dX10_step_207 : decode cX10_step 207 = .ok (.ireturn, 1) := by decide +kernel
theorem dX10_orders_0 : decode cX10_orders 0 = .ok (.iconst 1, 1) := by decide +kernel
theorem dX10_orders_1 : decode cX10_orders 1 = .ok (.istore_n 1, 1) := by decide +kernel
theorem dX10_orders_2 : decode cX10_orders 2 = .ok (.iconst 2, 1) := by decide +kernel
theorem dX10_orders_3 : decode cX10_orders 3 = .ok (.istore_n 2, 1) := by decide +kernel
theorem dX10_orders_4 : decode cX10_orders 4 = .ok (.iload_n 2, 1) := by decide +kernel
theorem dX10_orders_5 : decode cX10_orders 5 = .ok (.iload_n 0, 1) := by decide +kernel
theorem dX10_orders_6 : decode cX10_orders 6 = .ok (.if_icmp .gt 13, 3) := by decide +kernel
theorem dX10_orders_9 : decode cX10_orders 9 = .ok (.iload_n 1, 1) := by decide +kernel
theorem dX10_orders_10 : decode cX10_orders 10 = .ok (.iload_n 2, 1) := by decide +kernel
theorem dX10_orders_11 : decode cX10_orders 11 = .ok (.imul, 1) := by decide +kernel
theorem dX10_orders_12 : decode cX10_orders 12 = .ok (.istore_n 1, 1) := by decide +kernel
theorem dX10_orders_13 : decode cX10_orders 13 = .ok (.iinc 2 1, 3) := by decide +kernel
theorem dX10_orders_16 : decode cX10_orders 16 = .ok (.goto (-12), 3) := by decide +kernel
theorem dX10_orders_19 : decode cX10_orders 19 = .ok (.iload_n 1, 1) := by decide +kernel
theorem dX10_orders_20 : decode cX10_orders 20 = .ok (.ireturn, 1) := by decide +kernel
set_option maxRecDepth 20000 in
theorem ggX10_divisor_X10_size : GoodIn wsX10_divisor wsX10_size := goodIn_r _ [4] (by decide +kernel) (by decide +kernel)
set_option maxRecDepth 20000 in
theorem gX10_divisor_X10_size : GoodIn wsX10_divisor (va_wsS RX10 132 yX10_size wsX10_size) := goodIn_app (goodIn_of _ (by decide +kernel)) ggX10_divisor_X10_size
theorem dX10_divisor_0 : decode cX10_divisor 0 = .ok (.iload_n 0, 1) := by decide +kernel
theorem dX10_divisor_1 : decode cX10_divisor 1 = .ok (.invokestatic 132, 3) := by decide +kernel
theorem dX10_divisor_4 : decode cX10_divisor 4 = .ok (.istore_n 2, 1) := by decide +kernel
theorem dX10_divisor_5 : decode cX10_divisor 5 = .ok (.iload_n 1, 1) := by decide +kernel
theorem dX10_divisor_6 : decode cX10_divisor 6 = .ok (.istore_n 3, 1) := by decide +kernel
theorem dX10_divisor_7 : decode cX10_divisor 7 = .ok (.iload_n 3, 1) := by decide +kernel
theorem dX10_divisor_8 : decode cX10_divisor 8 = .ok (.ifCond .eq 16, 3) := by decide +kernel
theorem dX10_divisor_11 : decode cX10_divisor 11 = .ok (.iload_n 2, 1) := by decide +kernel
theorem dX10_divisor_12 : decode cX10_divisor 12 = .ok (.iload_n 3, 1) := by decide +kernel
theorem dX10_divisor_13 : decode cX10_divisor 13 = .ok (.irem, 1) := by decide +kernel
theorem dX10_divisor_14 : decode cX10_divisor 14 = .ok (.istore 4, 2) := by decide +kernel
theorem dX10_divisor_16 : decode cX10_divisor 16 = .ok (.iload_n 3, 1) := by decide +kernel
theorem dX10_divisor_17 : decode cX10_divisor 17 = .ok (.istore_n 2, 1) := by decide +kernel
theorem dX10_divisor_18 : decode cX10_divisor 18 = .ok (.iload 4, 2) := by decide +kernel
theorem dX10_divisor_20 : decode cX10_divisor 20 = .ok (.istore_n 3, 1) := by decide +kernel
theorem dX10_divisor_21 : decode cX10_divisor 21 = .ok (.goto (-14), 3) := by decide +kernel
theorem dX10_divisor_24 : decode cX10_divisor 24 = .ok (.iload_n 2, 1) := by decide +kernel
theorem dX10_divisor_25 : decode cX10_divisor 25 = .ok (.ireturn, 1) := by decide +kernel
set_option maxRecDepth 20000 in
theorem ggX10_fraction_X10_divisor : GoodIn wsX10_fraction wsX10_divisor := goodIn_r _ [4, 5, 6, 3, 7] (by decide +kernel) (by decide +kernel)
set_option maxRecDepth 20000 in
theorem gX10_fraction_X10_divisor : GoodIn wsX10_fraction (va_wsS RX10 148 yX10_divisor wsX10_divisor) := goodIn_app (goodIn_of _ (by decide +kernel)) ggX10_fraction_X10_divisor
theorem dX10_fraction_0 : decode cX10_fraction 0 = .ok (.iload_n 0, 1) := by decide +kernel
theorem dX10_fraction_1 : decode cX10_fraction 1 = .ok (.iload_n 1, 1) := by decide +kernel
theorem dX10_fraction_2 : decode cX10_fraction 2 = .ok (.invokestatic 148, 3) := by decide +kernel
theorem dX10_fraction_5 : decode cX10_fraction 5 = .ok (.istore_n 3, 1) := by decide +kernel
theorem dX10_fraction_6 : decode cX10_fraction 6 = .ok (.iload_n 2, 1) := by decide +kernel
theorem dX10_fraction_7 : decode cX10_fraction 7 = .ok (.ifCond .eq 9, 3) := by decide +kernel
theorem dX10_fraction_10 : decode cX10_fraction 10 = .ok (.iload_n 0, 1) := by decide +kernel
theorem dX10_fraction_11 : decode cX10_fraction 11 = .ok (.iload_n 3, 1) := by decide +kernel
theorem dX10_fraction_12 : decode cX10_fraction 12 = .ok (.idiv, 1) := by decide +kernel
theorem dX10_fraction_13 : decode cX10_fraction 13 = .ok (.goto 6, 3) := by decide +kernel
theorem dX10_fraction_16 : decode cX10_fraction 16 = .ok (.iload_n 1, 1) := by decide +kernel
theorem dX10_fraction_17 : decode cX10_fraction 17 = .ok (.iload_n 3, 1) := by decide +kernel
theorem dX10_fraction_18 : decode cX10_fraction 18 = .ok (.idiv, 1) := by decide +kernel
theorem dX10_fraction_19 : decode cX10_fraction 19 = .ok (.ireturn, 1) := by decide +kernel
set_option maxRecDepth 20000 in
theorem ggX10_share_X10_in : GoodIn wsX10_share wsX10_in := goodIn_r _ [8] (by decide +kernel) (by decide +kernel)
set_option maxRecDepth 20000 in
theorem gX10_share_X10_in : GoodIn wsX10_share (va_wsS RX10 63 yX10_in wsX10_in) := goodIn_app (goodIn_of _ (by decide +kernel)) ggX10_share_X10_in
set_option maxRecDepth 20000 in
theorem ggX10_share_X10_ahead : GoodIn wsX10_share wsX10_ahead := goodIn_r _ [12, 13, 3, 43, 44, 45, 46, 47, 48, 49, 50, 51, 52, 53, 54, 55, 56, 57, 58, 59, 60, 61, 62, 63, 64, 65, 66, 67, 68, 69, 70, 71, 72, 73] (by decide +kernel) (by decide +kernel)
set_option maxRecDepth 20000 in
theorem gX10_share_X10_ahead : GoodIn wsX10_share (wsV RX10 102 RX10 yX10_ahead wsX10_ahead) := goodIn_app (goodIn_of _ (by decide +kernel)) ggX10_share_X10_ahead
set_option maxRecDepth 20000 in
theorem ggX10_share_X10_has : GoodIn wsX10_share wsX10_has := goodIn_r _ [16] (by decide +kernel) (by decide +kernel)
set_option maxRecDepth 20000 in
theorem gX10_share_X10_has : GoodIn wsX10_share (va_wsS RX10 111 yX10_has wsX10_has) := goodIn_app (goodIn_of _ (by decide +kernel)) ggX10_share_X10_has
set_option maxRecDepth 20000 in
theorem ggX10_share_X10_sourceOf : GoodIn wsX10_share wsX10_sourceOf := goodIn_r _ [20, 3, 21, 22, 23, 24, 25, 7, 26, 27, 43, 44, 45, 46, 47, 48, 49, 50, 51, 52, 53, 54, 55, 56, 57, 58, 59, 60, 61, 62, 63, 64, 65, 66, 67, 68, 69, 70, 71, 72, 73] (by decide +kernel) (by decide +kernel)
set_option maxRecDepth 20000 in
theorem gX10_share_X10_sourceOf : GoodIn wsX10_share (wsV RX10 151 RX10 yX10_sourceOf wsX10_sourceOf) := goodIn_app (goodIn_of _ (by decide +kernel)) ggX10_share_X10_sourceOf
set_option maxRecDepth 20000 in
theorem ggX10_share_X10_size : GoodIn wsX10_share wsX10_size := goodIn_r _ [30] (by decide +kernel) (by decide +kernel)
set_option maxRecDepth 20000 in
theorem gX10_share_X10_size : GoodIn wsX10_share (va_wsS RX10 132 yX10_size wsX10_size) := goodIn_app (goodIn_of _ (by decide +kernel)) ggX10_share_X10_size
set_option maxRecDepth 20000 in
theorem ggX10_share_X10_many : GoodIn wsX10_share wsX10_many := goodIn_r _ [33] (by decide +kernel) (by decide +kernel)
set_option maxRecDepth 20000 in
theorem gX10_share_X10_many : GoodIn wsX10_share (va_wsS RX10 145 yX10_many wsX10_many) := goodIn_app (goodIn_of _ (by decide +kernel)) ggX10_share_X10_many
set_option maxRecDepth 20000 in
theorem ggX10_share_X10_orders : GoodIn wsX10_share wsX10_orders := goodIn_r _ [36] (by decide +kernel) (by decide +kernel)
set_option maxRecDepth 20000 in
theorem gX10_share_X10_orders : GoodIn wsX10_share (va_wsS RX10 154 yX10_orders wsX10_orders) := goodIn_app (goodIn_of _ (by decide +kernel)) ggX10_share_X10_orders
set_option maxRecDepth 20000 in
theorem ggX10_share_X10_fraction : GoodIn wsX10_share wsX10_fraction := goodIn_r _ [39, 40, 41, 7, 42, 28, 29, 30] (by decide +kernel) (by decide +kernel)
set_option maxRecDepth 20000 in
theorem gX10_share_X10_fraction : GoodIn wsX10_share (va_wsS RX10 157 yX10_fraction wsX10_fraction) := goodIn_app (goodIn_of _ (by decide +kernel)) ggX10_share_X10_fraction
theorem dX10_share_0 : decode cX10_share 0 = .ok (.aload_n 0, 1) := by decide +kernel
theorem dX10_share_1 : decode cX10_share 1 = .ok (.iconst 0, 1) := by decide +kernel
theorem dX10_share_2 : decode cX10_share 2 = .ok (.putfield 57, 3) := by decide +kernel
theorem dX10_share_5 : decode cX10_share 5 = .ok (.iload_n 1, 1) := by decide +kernel
theorem dX10_share_6 : decode cX10_share 6 = .ok (.i2l, 1) := by decide +kernel
theorem dX10_share_7 : decode cX10_share 7 = .ok (.lconst 0, 1) := by decide +kernel
theorem dX10_share_8 : decode cX10_share 8 = .ok (.ldc2_w 117, 3) := by decide +kernel
theorem dX10_share_11 : decode cX10_share 11 = .ok (.invokestatic 63, 3) := by decide +kernel
theorem dX10_share_14 : decode cX10_share 14 = .ok (.ifCond .ne 5, 3) := by decide +kernel
theorem dX10_share_17 : decode cX10_share 17 = .ok (.iconst (-1), 1) := by decide +kernel
theorem dX10_share_18 : decode cX10_share 18 = .ok (.ireturn, 1) := by decide +kernel
theorem dX10_share_19 : decode cX10_share 19 = .ok (.iload_n 2, 1) := by decide +kernel
theorem dX10_share_20 : decode cX10_share 20 = .ok (.i2l, 1) := by decide +kernel
theorem dX10_share_21 : decode cX10_share 21 = .ok (.lconst 0, 1) := by decide +kernel
theorem dX10_share_22 : decode cX10_share 22 = .ok (.aload_n 0, 1) := by decide +kernel
theorem dX10_share_23 : decode cX10_share 23 = .ok (.invokevirtual 102, 3) := by decide +kernel
theorem dX10_share_26 : decode cX10_share 26 = .ok (.i2l, 1) := by decide +kernel
theorem dX10_share_27 : decode cX10_share 27 = .ok (.invokestatic 63, 3) := by decide +kernel
theorem dX10_share_30 : decode cX10_share 30 = .ok (.ifCond .ne 6, 3) := by decide +kernel
theorem dX10_share_33 : decode cX10_share 33 = .ok (.bipush (-2), 2) := by decide +kernel
theorem dX10_share_35 : decode cX10_share 35 = .ok (.ireturn, 1) := by decide +kernel
theorem dX10_share_36 : decode cX10_share 36 = .ok (.iconst 0, 1) := by decide +kernel
theorem dX10_share_37 : decode cX10_share 37 = .ok (.istore 4, 2) := by decide +kernel
theorem dX10_share_39 : decode cX10_share 39 = .ok (.iload 4, 2) := by decide +kernel
theorem dX10_share_41 : decode cX10_share 41 = .ok (.bipush 16, 2) := by decide +kernel
theorem dX10_share_43 : decode cX10_share 43 = .ok (.if_icmp .ge 93, 3) := by decide +kernel
theorem dX10_share_46 : decode cX10_share 46 = .ok (.iconst 0, 1) := by decide +kernel
theorem dX10_share_47 : decode cX10_share 47 = .ok (.istore 5, 2) := by decide +kernel
theorem dX10_share_49 : decode cX10_share 49 = .ok (.iconst 0, 1) := by decide +kernel
theorem dX10_share_50 : decode cX10_share 50 = .ok (.istore 6, 2) := by decide +kernel
theorem dX10_share_52 : decode cX10_share 52 = .ok (.iload 6, 2) := by decide +kernel
theorem dX10_share_54 : decode cX10_share 54 = .ok (.iconst 4, 1) := by decide +kernel
theorem dX10_share_55 : decode cX10_share 55 = .ok (.if_icmp .ge 63, 3) := by decide +kernel
theorem dX10_share_58 : decode cX10_share 58 = .ok (.aload_n 0, 1) := by decide +kernel
theorem dX10_share_59 : decode cX10_share 59 = .ok (.getfield 35, 3) := by decide +kernel
theorem dX10_share_62 : decode cX10_share 62 = .ok (.iconst 0, 1) := by decide +kernel
theorem dX10_share_63 : decode cX10_share 63 = .ok (.iaload, 1) := by decide +kernel
theorem dX10_share_64 : decode cX10_share 64 = .ok (.istore 7, 2) := by decide +kernel
theorem dX10_share_66 : decode cX10_share 66 = .ok (.iload 7, 2) := by decide +kernel
theorem dX10_share_68 : decode cX10_share 68 = .ok (.aload_n 0, 1) := by decide +kernel
theorem dX10_share_69 : decode cX10_share 69 = .ok (.getfield 35, 3) := by decide +kernel
theorem dX10_share_72 : decode cX10_share 72 = .ok (.iconst 0, 1) := by decide +kernel
theorem dX10_share_73 : decode cX10_share 73 = .ok (.iaload, 1) := by decide +kernel
theorem dX10_share_74 : decode cX10_share 74 = .ok (.iload_n 2, 1) := by decide +kernel
theorem dX10_share_75 : decode cX10_share 75 = .ok (.iadd, 1) := by decide +kernel
theorem dX10_share_76 : decode cX10_share 76 = .ok (.if_icmp .ge 36, 3) := by decide +kernel
theorem dX10_share_79 : decode cX10_share 79 = .ok (.iload 5, 2) := by decide +kernel
theorem dX10_share_81 : decode cX10_share 81 = .ok (.iload 4, 2) := by decide +kernel
theorem dX10_share_83 : decode cX10_share 83 = .ok (.iload 6, 2) := by decide +kernel
theorem dX10_share_85 : decode cX10_share 85 = .ok (.invokestatic 111, 3) := by decide +kernel
theorem dX10_share_88 : decode cX10_share 88 = .ok (.ifCond .eq 14, 3) := by decide +kernel
theorem dX10_share_91 : decode cX10_share 91 = .ok (.aload_n 0, 1) := by decide +kernel
theorem dX10_share_92 : decode cX10_share 92 = .ok (.iload 7, 2) := by decide +kernel
theorem dX10_share_94 : decode cX10_share 94 = .ok (.iload 6, 2) := by decide +kernel
theorem dX10_share_96 : decode cX10_share 96 = .ok (.invokevirtual 151, 3) := by decide +kernel
theorem dX10_share_99 : decode cX10_share 99 = .ok (.goto 4, 3) := by decide +kernel
theorem dX10_share_102 : decode cX10_share 102 = .ok (.iconst 0, 1) := by decide +kernel
theorem dX10_share_103 : decode cX10_share 103 = .ok (.iadd, 1) := by decide +kernel
theorem dX10_share_104 : decode cX10_share 104 = .ok (.istore 5, 2) := by decide +kernel
theorem dX10_share_106 : decode cX10_share 106 = .ok (.iinc 7 1, 3) := by decide +kernel
theorem dX10_share_109 : decode cX10_share 109 = .ok (.goto (-43), 3) := by decide +kernel
theorem dX10_share_112 : decode cX10_share 112 = .ok (.iinc 6 1, 3) := by decide +kernel
theorem dX10_share_115 : decode cX10_share 115 = .ok (.goto (-63), 3) := by decide +kernel
theorem dX10_share_118 : decode cX10_share 118 = .ok (.aload_n 0, 1) := by decide +kernel
theorem dX10_share_119 : decode cX10_share 119 = .ok (.getfield 54, 3) := by decide +kernel
theorem dX10_share_122 : decode cX10_share 122 = .ok (.iload 4, 2) := by decide +kernel
theorem dX10_share_124 : decode cX10_share 124 = .ok (.iload 5, 2) := by decide +kernel
theorem dX10_share_126 : decode cX10_share 126 = .ok (.invokestatic 132, 3) := by decide +kernel
theorem dX10_share_129 : decode cX10_share 129 = .ok (.iastore, 1) := by decide +kernel
theorem dX10_share_130 : decode cX10_share 130 = .ok (.iinc 4 1, 3) := by decide +kernel
theorem dX10_share_133 : decode cX10_share 133 = .ok (.goto (-94), 3) := by decide +kernel
theorem dX10_share_136 : decode cX10_share 136 = .ok (.iconst 0, 1) := by decide +kernel
theorem dX10_share_137 : decode cX10_share 137 = .ok (.istore 4, 2) := by decide +kernel
theorem dX10_share_139 : decode cX10_share 139 = .ok (.iconst 0, 1) := by decide +kernel
theorem dX10_share_140 : decode cX10_share 140 = .ok (.istore 5, 2) := by decide +kernel
theorem dX10_share_142 : decode cX10_share 142 = .ok (.iload 5, 2) := by decide +kernel
theorem dX10_share_144 : decode cX10_share 144 = .ok (.bipush 16, 2) := by decide +kernel
theorem dX10_share_146 : decode cX10_share 146 = .ok (.if_icmp .ge 63, 3) := by decide +kernel
theorem dX10_share_149 : decode cX10_share 149 = .ok (.iload 5, 2) := by decide +kernel
theorem dX10_share_151 : decode cX10_share 151 = .ok (.iload_n 1, 1) := by decide +kernel
theorem dX10_share_152 : decode cX10_share 152 = .ok (.invokestatic 111, 3) := by decide +kernel
theorem dX10_share_155 : decode cX10_share 155 = .ok (.ifCond .ne 48, 3) := by decide +kernel
theorem dX10_share_158 : decode cX10_share 158 = .ok (.iload 5, 2) := by decide +kernel
theorem dX10_share_160 : decode cX10_share 160 = .ok (.invokestatic 145, 3) := by decide +kernel
theorem dX10_share_163 : decode cX10_share 163 = .ok (.istore 6, 2) := by decide +kernel
theorem dX10_share_165 : decode cX10_share 165 = .ok (.iload 4, 2) := by decide +kernel
theorem dX10_share_167 : decode cX10_share 167 = .ok (.iload 6, 2) := by decide +kernel
theorem dX10_share_169 : decode cX10_share 169 = .ok (.invokestatic 154, 3) := by decide +kernel
theorem dX10_share_172 : decode cX10_share 172 = .ok (.iconst 3, 1) := by decide +kernel
theorem dX10_share_173 : decode cX10_share 173 = .ok (.iload 6, 2) := by decide +kernel
theorem dX10_share_175 : decode cX10_share 175 = .ok (.isub, 1) := by decide +kernel
theorem dX10_share_176 : decode cX10_share 176 = .ok (.invokestatic 154, 3) := by decide +kernel
theorem dX10_share_179 : decode cX10_share 179 = .ok (.imul, 1) := by decide +kernel
theorem dX10_share_180 : decode cX10_share 180 = .ok (.aload_n 0, 1) := by decide +kernel
theorem dX10_share_181 : decode cX10_share 181 = .ok (.getfield 54, 3) := by decide +kernel
theorem dX10_share_184 : decode cX10_share 184 = .ok (.iload 5, 2) := by decide +kernel
theorem dX10_share_186 : decode cX10_share 186 = .ok (.iconst 1, 1) := by decide +kernel
theorem dX10_share_187 : decode cX10_share 187 = .ok (.iload_n 1, 1) := by decide +kernel
theorem dX10_share_188 : decode cX10_share 188 = .ok (.ishl, 1) := by decide +kernel
theorem dX10_share_189 : decode cX10_share 189 = .ok (.ior, 1) := by decide +kernel
theorem dX10_share_190 : decode cX10_share 190 = .ok (.iaload, 1) := by decide +kernel
theorem dX10_share_191 : decode cX10_share 191 = .ok (.aload_n 0, 1) := by decide +kernel
theorem dX10_share_192 : decode cX10_share 192 = .ok (.getfield 54, 3) := by decide +kernel
theorem dX10_share_195 : decode cX10_share 195 = .ok (.iload 5, 2) := by decide +kernel
theorem dX10_share_197 : decode cX10_share 197 = .ok (.iaload, 1) := by decide +kernel
theorem dX10_share_198 : decode cX10_share 198 = .ok (.isub, 1) := by decide +kernel
theorem dX10_share_199 : decode cX10_share 199 = .ok (.imul, 1) := by decide +kernel
theorem dX10_share_200 : decode cX10_share 200 = .ok (.iadd, 1) := by decide +kernel
theorem dX10_share_201 : decode cX10_share 201 = .ok (.istore 4, 2) := by decide +kernel
theorem dX10_share_203 : decode cX10_share 203 = .ok (.iinc 5 1, 3) := by decide +kernel
theorem dX10_share_206 : decode cX10_share 206 = .ok (.goto (-64), 3) := by decide +kernel
theorem dX10_share_209 : decode cX10_share 209 = .ok (.iload 4, 2) := by decide +kernel
theorem dX10_share_211 : decode cX10_share 211 = .ok (.bipush 24, 2) := by decide +kernel
theorem dX10_share_213 : decode cX10_share 213 = .ok (.iload_n 3, 1) := by decide +kernel
theorem dX10_share_214 : decode cX10_share 214 = .ok (.invokestatic 157, 3) := by decide +kernel
theorem dX10_share_217 : decode cX10_share 217 = .ok (.ireturn, 1) := by decide +kernel
theorem dX10_gorseLaid_0 : decode cX10_gorseLaid 0 = .ok (.iconst 0, 1) := by decide +kernel
theorem dX10_gorseLaid_1 : decode cX10_gorseLaid 1 = .ok (.istore_n 1, 1) := by decide +kernel
theorem dX10_gorseLaid_2 : decode cX10_gorseLaid 2 = .ok (.iconst 0, 1) := by decide +kernel
theorem dX10_gorseLaid_3 : decode cX10_gorseLaid 3 = .ok (.istore_n 2, 1) := by decide +kernel
theorem dX10_gorseLaid_4 : decode cX10_gorseLaid 4 = .ok (.iload_n 2, 1) := by decide +kernel
theorem dX10_gorseLaid_5 : decode cX10_gorseLaid 5 = .ok (.aload_n 0, 1) := by decide +kernel
theorem dX10_gorseLaid_6 : decode cX10_gorseLaid 6 = .ok (.getfield 35, 3) := by decide +kernel
theorem dX10_gorseLaid_9 : decode cX10_gorseLaid 9 = .ok (.iconst 0, 1) := by decide +kernel
theorem dX10_gorseLaid_10 : decode cX10_gorseLaid 10 = .ok (.iaload, 1) := by decide +kernel
theorem dX10_gorseLaid_11 : decode cX10_gorseLaid 11 = .ok (.if_icmp .ge 18, 3) := by decide +kernel
theorem dX10_gorseLaid_14 : decode cX10_gorseLaid 14 = .ok (.iload_n 1, 1) := by decide +kernel
theorem dX10_gorseLaid_15 : decode cX10_gorseLaid 15 = .ok (.aload_n 0, 1) := by decide +kernel
theorem dX10_gorseLaid_16 : decode cX10_gorseLaid 16 = .ok (.getfield 26, 3) := by decide +kernel
theorem dX10_gorseLaid_19 : decode cX10_gorseLaid 19 = .ok (.iload_n 2, 1) := by decide +kernel
theorem dX10_gorseLaid_20 : decode cX10_gorseLaid 20 = .ok (.iaload, 1) := by decide +kernel
theorem dX10_gorseLaid_21 : decode cX10_gorseLaid 21 = .ok (.iadd, 1) := by decide +kernel
theorem dX10_gorseLaid_22 : decode cX10_gorseLaid 22 = .ok (.istore_n 1, 1) := by decide +kernel
theorem dX10_gorseLaid_23 : decode cX10_gorseLaid 23 = .ok (.iinc 2 1, 3) := by decide +kernel
theorem dX10_gorseLaid_26 : decode cX10_gorseLaid 26 = .ok (.goto (-22), 3) := by decide +kernel
theorem dX10_gorseLaid_29 : decode cX10_gorseLaid 29 = .ok (.iload_n 1, 1) := by decide +kernel
theorem dX10_gorseLaid_30 : decode cX10_gorseLaid 30 = .ok (.ireturn, 1) := by decide +kernel
set_option maxRecDepth 20000 in
theorem ggX10_where_X10_in : GoodIn wsX10_where wsX10_in := goodIn_r _ [7] (by decide +kernel) (by decide +kernel)
set_option maxRecDepth 20000 in
theorem gX10_where_X10_in : GoodIn wsX10_where (va_wsS RX10 63 yX10_in wsX10_in) := goodIn_app (goodIn_of _ (by decide +kernel)) ggX10_where_X10_in
set_option maxRecDepth 20000 in
theorem ggX10_where_X10_gorseLaid : GoodIn wsX10_where wsX10_gorseLaid := goodIn_r _ [11, 2, 3, 21, 22, 23, 24, 25, 26, 27, 28, 29, 30, 31, 32, 33, 34, 35, 36, 37, 38, 39, 40, 41, 42, 43, 44, 45, 46, 47, 48, 49, 50, 51] (by decide +kernel) (by decide +kernel)
set_option maxRecDepth 20000 in
theorem gX10_where_X10_gorseLaid : GoodIn wsX10_where (wsV RX10 161 RX10 yX10_gorseLaid wsX10_gorseLaid) := goodIn_app (goodIn_of _ (by decide +kernel)) ggX10_where_X10_gorseLaid
set_option maxRecDepth 20000 in
theorem ggX10_where_X10_fraction : GoodIn wsX10_where wsX10_fraction := goodIn_r _ [14, 15, 16, 6, 17, 18, 19, 20] (by decide +kernel) (by decide +kernel)
set_option maxRecDepth 20000 in
theorem gX10_where_X10_fraction : GoodIn wsX10_where (va_wsS RX10 157 yX10_fraction wsX10_fraction) := goodIn_app (goodIn_of _ (by decide +kernel)) ggX10_where_X10_fraction
theorem dX10_where_0 : decode cX10_where 0 = .ok (.aload_n 0, 1) := by decide +kernel
theorem dX10_where_1 : decode cX10_where 1 = .ok (.iconst 0, 1) := by decide +kernel
theorem dX10_where_2 : decode cX10_where 2 = .ok (.putfield 57, 3) := by decide +kernel
theorem dX10_where_5 : decode cX10_where 5 = .ok (.iload_n 1, 1) := by decide +kernel
theorem dX10_where_6 : decode cX10_where 6 = .ok (.i2l, 1) := by decide +kernel
theorem dX10_where_7 : decode cX10_where 7 = .ok (.lconst 0, 1) := by decide +kernel
theorem dX10_where_8 : decode cX10_where 8 = .ok (.aload_n 0, 1) := by decide +kernel
theorem dX10_where_9 : decode cX10_where 9 = .ok (.getfield 35, 3) := by decide +kernel
theorem dX10_where_12 : decode cX10_where 12 = .ok (.iconst 0, 1) := by decide +kernel
theorem dX10_where_13 : decode cX10_where 13 = .ok (.iaload, 1) := by decide +kernel
theorem dX10_where_14 : decode cX10_where 14 = .ok (.iconst 1, 1) := by decide +kernel
theorem dX10_where_15 : decode cX10_where 15 = .ok (.isub, 1) := by decide +kernel
theorem dX10_where_16 : decode cX10_where 16 = .ok (.i2l, 1) := by decide +kernel
theorem dX10_where_17 : decode cX10_where 17 = .ok (.invokestatic 63, 3) := by decide +kernel
theorem dX10_where_20 : decode cX10_where 20 = .ok (.ifCond .ne 5, 3) := by decide +kernel
theorem dX10_where_23 : decode cX10_where 23 = .ok (.iconst (-1), 1) := by decide +kernel
theorem dX10_where_24 : decode cX10_where 24 = .ok (.ireturn, 1) := by decide +kernel
theorem dX10_where_25 : decode cX10_where 25 = .ok (.aload_n 0, 1) := by decide +kernel
theorem dX10_where_26 : decode cX10_where 26 = .ok (.invokevirtual 161, 3) := by decide +kernel
theorem dX10_where_29 : decode cX10_where 29 = .ok (.istore_n 3, 1) := by decide +kernel
theorem dX10_where_30 : decode cX10_where 30 = .ok (.iload_n 3, 1) := by decide +kernel
theorem dX10_where_31 : decode cX10_where 31 = .ok (.ifCond .ne 8, 3) := by decide +kernel
theorem dX10_where_34 : decode cX10_where 34 = .ok (.bipush (-3), 2) := by decide +kernel
theorem dX10_where_36 : decode cX10_where 36 = .ok (.goto 14, 3) := by decide +kernel
theorem dX10_where_39 : decode cX10_where 39 = .ok (.aload_n 0, 1) := by decide +kernel
theorem dX10_where_40 : decode cX10_where 40 = .ok (.getfield 26, 3) := by decide +kernel
theorem dX10_where_43 : decode cX10_where 43 = .ok (.iload_n 1, 1) := by decide +kernel
theorem dX10_where_44 : decode cX10_where 44 = .ok (.iaload, 1) := by decide +kernel
theorem dX10_where_45 : decode cX10_where 45 = .ok (.iload_n 3, 1) := by decide +kernel
theorem dX10_where_46 : decode cX10_where 46 = .ok (.iload_n 2, 1) := by decide +kernel
theorem dX10_where_47 : decode cX10_where 47 = .ok (.invokestatic 157, 3) := by decide +kernel
theorem dX10_where_50 : decode cX10_where 50 = .ok (.ireturn, 1) := by decide +kernel
set_option maxRecDepth 20000 in
theorem ggX10_back_X10_in : GoodIn wsX10_back wsX10_in := goodIn_r _ [8] (by decide +kernel) (by decide +kernel)
set_option maxRecDepth 20000 in
theorem gX10_back_X10_in : GoodIn wsX10_back (va_wsS RX10 63 yX10_in wsX10_in) := goodIn_app (goodIn_of _ (by decide +kernel)) ggX10_back_X10_in
set_option maxRecDepth 20000 in
theorem ggX10_back_X10_gorseLaid : GoodIn wsX10_back wsX10_gorseLaid := goodIn_r _ [12, 4, 3, 13, 14, 15, 16, 17, 18, 19, 20, 21, 22, 23, 24, 25, 26, 27, 28, 29, 30, 31, 32, 33, 34, 35, 36, 37, 38, 39, 40, 41, 42, 43] (by decide +kernel) (by decide +kernel)
set_option maxRecDepth 20000 in
theorem gX10_back_X10_gorseLaid : GoodIn wsX10_back (wsV RX10 161 RX10 yX10_gorseLaid wsX10_gorseLaid) := goodIn_app (goodIn_of _ (by decide +kernel)) ggX10_back_X10_gorseLaid
theorem dX10_back_0 : decode cX10_back 0 = .ok (.aload_n 0, 1) := by decide +kernel
theorem dX10_back_1 : decode cX10_back 1 = .ok (.iconst 0, 1) := by decide +kernel
theorem dX10_back_2 : decode cX10_back 2 = .ok (.putfield 57, 3) := by decide +kernel
theorem dX10_back_5 : decode cX10_back 5 = .ok (.iload_n 1, 1) := by decide +kernel
theorem dX10_back_6 : decode cX10_back 6 = .ok (.i2l, 1) := by decide +kernel
theorem dX10_back_7 : decode cX10_back 7 = .ok (.lconst 1, 1) := by decide +kernel
theorem dX10_back_8 : decode cX10_back 8 = .ok (.ldc2_w 164, 3) := by decide +kernel
theorem dX10_back_11 : decode cX10_back 11 = .ok (.invokestatic 63, 3) := by decide +kernel
theorem dX10_back_14 : decode cX10_back 14 = .ok (.ifCond .ne 6, 3) := by decide +kernel
theorem dX10_back_17 : decode cX10_back 17 = .ok (.bipush (-2), 2) := by decide +kernel
theorem dX10_back_19 : decode cX10_back 19 = .ok (.ireturn, 1) := by decide +kernel
theorem dX10_back_20 : decode cX10_back 20 = .ok (.aload_n 0, 1) := by decide +kernel
theorem dX10_back_21 : decode cX10_back 21 = .ok (.invokevirtual 161, 3) := by decide +kernel
theorem dX10_back_24 : decode cX10_back 24 = .ok (.istore_n 2, 1) := by decide +kernel
theorem dX10_back_25 : decode cX10_back 25 = .ok (.iload_n 2, 1) := by decide +kernel
theorem dX10_back_26 : decode cX10_back 26 = .ok (.ifCond .ne 6, 3) := by decide +kernel
theorem dX10_back_29 : decode cX10_back 29 = .ok (.bipush (-3), 2) := by decide +kernel
theorem dX10_back_31 : decode cX10_back 31 = .ok (.ireturn, 1) := by decide +kernel
theorem dX10_back_32 : decode cX10_back 32 = .ok (.iconst 0, 1) := by decide +kernel
theorem dX10_back_33 : decode cX10_back 33 = .ok (.istore_n 3, 1) := by decide +kernel
theorem dX10_back_34 : decode cX10_back 34 = .ok (.iconst 0, 1) := by decide +kernel
theorem dX10_back_35 : decode cX10_back 35 = .ok (.istore 4, 2) := by decide +kernel
theorem dX10_back_37 : decode cX10_back 37 = .ok (.bipush 10, 2) := by decide +kernel
theorem dX10_back_39 : decode cX10_back 39 = .ok (.iload 4, 2) := by decide +kernel
theorem dX10_back_41 : decode cX10_back 41 = .ok (.imul, 1) := by decide +kernel
theorem dX10_back_42 : decode cX10_back 42 = .ok (.iload_n 1, 1) := by decide +kernel
theorem dX10_back_43 : decode cX10_back 43 = .ok (.iload_n 2, 1) := by decide +kernel
theorem dX10_back_44 : decode cX10_back 44 = .ok (.imul, 1) := by decide +kernel
theorem dX10_back_45 : decode cX10_back 45 = .ok (.if_icmp .ge 27, 3) := by decide +kernel
theorem dX10_back_48 : decode cX10_back 48 = .ok (.iinc 3 1, 3) := by decide +kernel
theorem dX10_back_51 : decode cX10_back 51 = .ok (.iload 4, 2) := by decide +kernel
theorem dX10_back_53 : decode cX10_back 53 = .ok (.aload_n 0, 1) := by decide +kernel
theorem dX10_back_54 : decode cX10_back 54 = .ok (.getfield 26, 3) := by decide +kernel
theorem dX10_back_57 : decode cX10_back 57 = .ok (.aload_n 0, 1) := by decide +kernel
theorem dX10_back_58 : decode cX10_back 58 = .ok (.getfield 35, 3) := by decide +kernel
theorem dX10_back_61 : decode cX10_back 61 = .ok (.iconst 0, 1) := by decide +kernel
theorem dX10_back_62 : decode cX10_back 62 = .ok (.iaload, 1) := by decide +kernel
theorem dX10_back_63 : decode cX10_back 63 = .ok (.iload_n 3, 1) := by decide +kernel
theorem dX10_back_64 : decode cX10_back 64 = .ok (.isub, 1) := by decide +kernel
theorem dX10_back_65 : decode cX10_back 65 = .ok (.iaload, 1) := by decide +kernel
theorem dX10_back_66 : decode cX10_back 66 = .ok (.iadd, 1) := by decide +kernel
theorem dX10_back_67 : decode cX10_back 67 = .ok (.istore 4, 2) := by decide +kernel
theorem dX10_back_69 : decode cX10_back 69 = .ok (.goto (-32), 3) := by decide +kernel
theorem dX10_back_72 : decode cX10_back 72 = .ok (.iload_n 3, 1) := by decide +kernel
theorem dX10_back_73 : decode cX10_back 73 = .ok (.ireturn, 1) := by decide +kernel
theorem dX10_showsBy_0 : decode cX10_showsBy 0 = .ok (.iload_n 2, 1) := by decide +kernel
theorem dX10_showsBy_1 : decode cX10_showsBy 1 = .ok (.istore_n 3, 1) := by decide +kernel
theorem dX10_showsBy_2 : decode cX10_showsBy 2 = .ok (.iconst 0, 1) := by decide +kernel
theorem dX10_showsBy_3 : decode cX10_showsBy 3 = .ok (.istore 4, 2) := by decide +kernel
theorem dX10_showsBy_5 : decode cX10_showsBy 5 = .ok (.iconst 0, 1) := by decide +kernel
theorem dX10_showsBy_6 : decode cX10_showsBy 6 = .ok (.istore 5, 2) := by decide +kernel
theorem dX10_showsBy_8 : decode cX10_showsBy 8 = .ok (.iload 5, 2) := by decide +kernel
theorem dX10_showsBy_10 : decode cX10_showsBy 10 = .ok (.aload_n 0, 1) := by decide +kernel
theorem dX10_showsBy_11 : decode cX10_showsBy 11 = .ok (.getfield 60, 3) := by decide +kernel
theorem dX10_showsBy_14 : decode cX10_showsBy 14 = .ok (.if_icmp .ge 46, 3) := by decide +kernel
theorem dX10_showsBy_17 : decode cX10_showsBy 17 = .ok (.iload_n 3, 1) := by decide +kernel
theorem dX10_showsBy_18 : decode cX10_showsBy 18 = .ok (.ifCond .ne 17, 3) := by decide +kernel
theorem dX10_showsBy_21 : decode cX10_showsBy 21 = .ok (.iload 4, 2) := by decide +kernel
theorem dX10_showsBy_23 : decode cX10_showsBy 23 = .ok (.istore_n 3, 1) := by decide +kernel
theorem dX10_showsBy_24 : decode cX10_showsBy 24 = .ok (.iconst 0, 1) := by decide +kernel
theorem dX10_showsBy_25 : decode cX10_showsBy 25 = .ok (.istore 4, 2) := by decide +kernel
theorem dX10_showsBy_27 : decode cX10_showsBy 27 = .ok (.iload_n 3, 1) := by decide +kernel
theorem dX10_showsBy_28 : decode cX10_showsBy 28 = .ok (.iload_n 2, 1) := by decide +kernel
theorem dX10_showsBy_29 : decode cX10_showsBy 29 = .ok (.if_icmp .eq 6, 3) := by decide +kernel
theorem dX10_showsBy_32 : decode cX10_showsBy 32 = .ok (.iload 5, 2) := by decide +kernel
theorem dX10_showsBy_34 : decode cX10_showsBy 34 = .ok (.ireturn, 1) := by decide +kernel
theorem dX10_showsBy_35 : decode cX10_showsBy 35 = .ok (.iinc 3 (-1), 3) := by decide +kernel
theorem dX10_showsBy_38 : decode cX10_showsBy 38 = .ok (.iload 4, 2) := by decide +kernel
theorem dX10_showsBy_40 : decode cX10_showsBy 40 = .ok (.iload 5, 2) := by decide +kernel
theorem dX10_showsBy_42 : decode cX10_showsBy 42 = .ok (.iload_n 1, 1) := by decide +kernel
theorem dX10_showsBy_43 : decode cX10_showsBy 43 = .ok (.if_icmp .ne 7, 3) := by decide +kernel
theorem dX10_showsBy_46 : decode cX10_showsBy 46 = .ok (.iconst 0, 1) := by decide +kernel
theorem dX10_showsBy_47 : decode cX10_showsBy 47 = .ok (.goto 4, 3) := by decide +kernel
theorem dX10_showsBy_50 : decode cX10_showsBy 50 = .ok (.iconst 1, 1) := by decide +kernel
theorem dX10_showsBy_51 : decode cX10_showsBy 51 = .ok (.iadd, 1) := by decide +kernel
theorem dX10_showsBy_52 : decode cX10_showsBy 52 = .ok (.istore 4, 2) := by decide +kernel
theorem dX10_showsBy_54 : decode cX10_showsBy 54 = .ok (.iinc 5 1, 3) := by decide +kernel
theorem dX10_showsBy_57 : decode cX10_showsBy 57 = .ok (.goto (-49), 3) := by decide +kernel
theorem dX10_showsBy_60 : decode cX10_showsBy 60 = .ok (.bipush (-9), 2) := by decide +kernel
theorem dX10_showsBy_62 : decode cX10_showsBy 62 = .ok (.ireturn, 1) := by decide +kernel
set_option maxRecDepth 20000 in
theorem ggX10_shows_X10_noStage : GoodIn wsX10_shows wsX10_noStage := goodIn_r _ [8, 9, 10, 11, 7, 12, 17, 18, 19, 20, 21, 22, 23, 24, 25, 26, 27, 28, 29, 30, 31, 32, 33, 34, 35, 36, 37, 38, 39, 40, 41, 42, 43, 44, 45, 46, 47] (by decide +kernel) (by decide +kernel)
set_option maxRecDepth 20000 in
theorem gX10_shows_X10_noStage : GoodIn wsX10_shows (wsV RX10 98 RX10 yX10_noStage wsX10_noStage) := goodIn_app (goodIn_of _ (by decide +kernel)) ggX10_shows_X10_noStage
set_option maxRecDepth 20000 in
theorem ggX10_shows_X10_in : GoodIn wsX10_shows wsX10_in := goodIn_r _ [12] (by decide +kernel) (by decide +kernel)
set_option maxRecDepth 20000 in
theorem gX10_shows_X10_in : GoodIn wsX10_shows (va_wsS RX10 63 yX10_in wsX10_in) := goodIn_app (goodIn_of _ (by decide +kernel)) ggX10_shows_X10_in
set_option maxRecDepth 20000 in
theorem ggX10_shows_X10_showsBy : GoodIn wsX10_shows wsX10_showsBy := goodIn_r _ [16, 9, 17, 18, 19, 20, 21, 22, 23, 24, 25, 26, 27, 28, 29, 30, 31, 32, 33, 34, 35, 36, 37, 38, 39, 40, 41, 42, 43, 44, 45, 46, 47] (by decide +kernel) (by decide +kernel)
set_option maxRecDepth 20000 in
theorem gX10_shows_X10_showsBy : GoodIn wsX10_shows (wsV RX10 168 RX10 yX10_showsBy wsX10_showsBy) := goodIn_app (goodIn_of _ (by decide +kernel)) ggX10_shows_X10_showsBy
theorem dX10_shows_0 : decode cX10_shows 0 = .ok (.aload_n 0, 1) := by decide +kernel
theorem dX10_shows_1 : decode cX10_shows 1 = .ok (.iconst 0, 1) := by decide +kernel
theorem dX10_shows_2 : decode cX10_shows 2 = .ok (.putfield 57, 3) := by decide +kernel
theorem dX10_shows_5 : decode cX10_shows 5 = .ok (.aload_n 0, 1) := by decide +kernel
theorem dX10_shows_6 : decode cX10_shows 6 = .ok (.iload_n 1, 1) := by decide +kernel
theorem dX10_shows_7 : decode cX10_shows 7 = .ok (.invokevirtual 98, 3) := by decide +kernel
theorem dX10_shows_10 : decode cX10_shows 10 = .ok (.ifCond .eq 5, 3) := by decide +kernel
theorem dX10_shows_13 : decode cX10_shows 13 = .ok (.iconst (-1), 1) := by decide +kernel
theorem dX10_shows_14 : decode cX10_shows 14 = .ok (.ireturn, 1) := by decide +kernel
theorem dX10_shows_15 : decode cX10_shows 15 = .ok (.iload_n 2, 1) := by decide +kernel
theorem dX10_shows_16 : decode cX10_shows 16 = .ok (.i2l, 1) := by decide +kernel
theorem dX10_shows_17 : decode cX10_shows 17 = .ok (.ldc2_w 166, 3) := by decide +kernel
theorem dX10_shows_20 : decode cX10_shows 20 = .ok (.ldc2_w 121, 3) := by decide +kernel
theorem dX10_shows_23 : decode cX10_shows 23 = .ok (.invokestatic 63, 3) := by decide +kernel
theorem dX10_shows_26 : decode cX10_shows 26 = .ok (.ifCond .eq 12, 3) := by decide +kernel
theorem dX10_shows_29 : decode cX10_shows 29 = .ok (.aload_n 0, 1) := by decide +kernel
theorem dX10_shows_30 : decode cX10_shows 30 = .ok (.iload_n 1, 1) := by decide +kernel
theorem dX10_shows_31 : decode cX10_shows 31 = .ok (.iload_n 2, 1) := by decide +kernel
theorem dX10_shows_32 : decode cX10_shows 32 = .ok (.invokevirtual 168, 3) := by decide +kernel
theorem dX10_shows_35 : decode cX10_shows 35 = .ok (.goto 5, 3) := by decide +kernel
theorem dX10_shows_38 : decode cX10_shows 38 = .ok (.bipush (-2), 2) := by decide +kernel
theorem dX10_shows_40 : decode cX10_shows 40 = .ok (.ireturn, 1) := by decide +kernel
set_option maxRecDepth 20000 in
theorem ggX10_soonest_X10_showsBy : GoodIn wsX10_soonest wsX10_showsBy := goodIn_r _ [8, 3, 9, 10, 11, 12, 13, 14, 15, 16, 17, 18, 19, 20, 21, 22, 23, 24, 25, 26, 27, 28, 29, 30, 31, 32, 33, 34, 35, 36, 37, 38, 39] (by decide +kernel) (by decide +kernel)
set_option maxRecDepth 20000 in
theorem gX10_soonest_X10_showsBy : GoodIn wsX10_soonest (wsV RX10 168 RX10 yX10_showsBy wsX10_showsBy) := goodIn_app (goodIn_of _ (by decide +kernel)) ggX10_soonest_X10_showsBy
theorem dX10_soonest_0 : decode cX10_soonest 0 = .ok (.aload_n 0, 1) := by decide +kernel
theorem dX10_soonest_1 : decode cX10_soonest 1 = .ok (.iconst 0, 1) := by decide +kernel
theorem dX10_soonest_2 : decode cX10_soonest 2 = .ok (.putfield 57, 3) := by decide +kernel
theorem dX10_soonest_5 : decode cX10_soonest 5 = .ok (.bipush (-9), 2) := by decide +kernel
theorem dX10_soonest_7 : decode cX10_soonest 7 = .ok (.istore_n 1, 1) := by decide +kernel
theorem dX10_soonest_8 : decode cX10_soonest 8 = .ok (.ldc 171, 2) := by decide +kernel
theorem dX10_soonest_10 : decode cX10_soonest 10 = .ok (.istore_n 2, 1) := by decide +kernel
theorem dX10_soonest_11 : decode cX10_soonest 11 = .ok (.iconst 2, 1) := by decide +kernel
theorem dX10_soonest_12 : decode cX10_soonest 12 = .ok (.istore_n 3, 1) := by decide +kernel
theorem dX10_soonest_13 : decode cX10_soonest 13 = .ok (.iload_n 3, 1) := by decide +kernel
theorem dX10_soonest_14 : decode cX10_soonest 14 = .ok (.bipush 9, 2) := by decide +kernel
theorem dX10_soonest_16 : decode cX10_soonest 16 = .ok (.if_icmp .gt 99, 3) := by decide +kernel
theorem dX10_soonest_19 : decode cX10_soonest 19 = .ok (.iconst 0, 1) := by decide +kernel
theorem dX10_soonest_20 : decode cX10_soonest 20 = .ok (.istore 4, 2) := by decide +kernel
theorem dX10_soonest_22 : decode cX10_soonest 22 = .ok (.iconst 0, 1) := by decide +kernel
theorem dX10_soonest_23 : decode cX10_soonest 23 = .ok (.istore 5, 2) := by decide +kernel
theorem dX10_soonest_25 : decode cX10_soonest 25 = .ok (.iload 5, 2) := by decide +kernel
theorem dX10_soonest_27 : decode cX10_soonest 27 = .ok (.aload_n 0, 1) := by decide +kernel
theorem dX10_soonest_28 : decode cX10_soonest 28 = .ok (.getfield 60, 3) := by decide +kernel
theorem dX10_soonest_31 : decode cX10_soonest 31 = .ok (.if_icmp .ge 53, 3) := by decide +kernel
theorem dX10_soonest_34 : decode cX10_soonest 34 = .ok (.aload_n 0, 1) := by decide +kernel
theorem dX10_soonest_35 : decode cX10_soonest 35 = .ok (.iload 5, 2) := by decide +kernel
theorem dX10_soonest_37 : decode cX10_soonest 37 = .ok (.iload_n 3, 1) := by decide +kernel
theorem dX10_soonest_38 : decode cX10_soonest 38 = .ok (.invokevirtual 168, 3) := by decide +kernel
theorem dX10_soonest_41 : decode cX10_soonest 41 = .ok (.istore 6, 2) := by decide +kernel
theorem dX10_soonest_43 : decode cX10_soonest 43 = .ok (.iload 6, 2) := by decide +kernel
theorem dX10_soonest_45 : decode cX10_soonest 45 = .ok (.bipush (-9), 2) := by decide +kernel
theorem dX10_soonest_47 : decode cX10_soonest 47 = .ok (.if_icmp .ne 8, 3) := by decide +kernel
theorem dX10_soonest_50 : decode cX10_soonest 50 = .ok (.bipush 9, 2) := by decide +kernel
theorem dX10_soonest_52 : decode cX10_soonest 52 = .ok (.goto 8, 3) := by decide +kernel
theorem dX10_soonest_55 : decode cX10_soonest 55 = .ok (.iload 6, 2) := by decide +kernel
theorem dX10_soonest_57 : decode cX10_soonest 57 = .ok (.iload 5, 2) := by decide +kernel
theorem dX10_soonest_59 : decode cX10_soonest 59 = .ok (.isub, 1) := by decide +kernel
theorem dX10_soonest_60 : decode cX10_soonest 60 = .ok (.istore 7, 2) := by decide +kernel
theorem dX10_soonest_62 : decode cX10_soonest 62 = .ok (.iload 7, 2) := by decide +kernel
theorem dX10_soonest_64 : decode cX10_soonest 64 = .ok (.iload 4, 2) := by decide +kernel
theorem dX10_soonest_66 : decode cX10_soonest 66 = .ok (.if_icmp .le 8, 3) := by decide +kernel
theorem dX10_soonest_69 : decode cX10_soonest 69 = .ok (.iload 7, 2) := by decide +kernel
theorem dX10_soonest_71 : decode cX10_soonest 71 = .ok (.goto 5, 3) := by decide +kernel
theorem dX10_soonest_74 : decode cX10_soonest 74 = .ok (.iload 4, 2) := by decide +kernel
theorem dX10_soonest_76 : decode cX10_soonest 76 = .ok (.istore 4, 2) := by decide +kernel
theorem dX10_soonest_78 : decode cX10_soonest 78 = .ok (.iinc 5 1, 3) := by decide +kernel
theorem dX10_soonest_81 : decode cX10_soonest 81 = .ok (.goto (-56), 3) := by decide +kernel
theorem dX10_soonest_84 : decode cX10_soonest 84 = .ok (.iload 4, 2) := by decide +kernel
theorem dX10_soonest_86 : decode cX10_soonest 86 = .ok (.iload_n 2, 1) := by decide +kernel
theorem dX10_soonest_87 : decode cX10_soonest 87 = .ok (.if_icmp .ge 7, 3) := by decide +kernel
theorem dX10_soonest_90 : decode cX10_soonest 90 = .ok (.iload_n 3, 1) := by decide +kernel
theorem dX10_soonest_91 : decode cX10_soonest 91 = .ok (.goto 4, 3) := by decide +kernel
theorem dX10_soonest_94 : decode cX10_soonest 94 = .ok (.iload_n 1, 1) := by decide +kernel
theorem dX10_soonest_95 : decode cX10_soonest 95 = .ok (.istore_n 1, 1) := by decide +kernel
theorem dX10_soonest_96 : decode cX10_soonest 96 = .ok (.iload 4, 2) := by decide +kernel
theorem dX10_soonest_98 : decode cX10_soonest 98 = .ok (.iload_n 2, 1) := by decide +kernel
theorem dX10_soonest_99 : decode cX10_soonest 99 = .ok (.if_icmp .ge 8, 3) := by decide +kernel
theorem dX10_soonest_102 : decode cX10_soonest 102 = .ok (.iload 4, 2) := by decide +kernel
theorem dX10_soonest_104 : decode cX10_soonest 104 = .ok (.goto 4, 3) := by decide +kernel
theorem dX10_soonest_107 : decode cX10_soonest 107 = .ok (.iload_n 2, 1) := by decide +kernel
theorem dX10_soonest_108 : decode cX10_soonest 108 = .ok (.istore_n 2, 1) := by decide +kernel
theorem dX10_soonest_109 : decode cX10_soonest 109 = .ok (.iinc 3 1, 3) := by decide +kernel
theorem dX10_soonest_112 : decode cX10_soonest 112 = .ok (.goto (-99), 3) := by decide +kernel
theorem dX10_soonest_115 : decode cX10_soonest 115 = .ok (.iload_n 1, 1) := by decide +kernel
theorem dX10_soonest_116 : decode cX10_soonest 116 = .ok (.ireturn, 1) := by decide +kernel
set_option maxRecDepth 20000 in
theorem ggX10_test_X10_in : GoodIn wsX10_test wsX10_in := goodIn_r _ [11] (by decide +kernel) (by decide +kernel)
set_option maxRecDepth 20000 in
theorem gX10_test_X10_in : GoodIn wsX10_test (va_wsS RX10 63 yX10_in wsX10_in) := goodIn_app (goodIn_of _ (by decide +kernel)) ggX10_test_X10_in
theorem dX10_test_0 : decode cX10_test 0 = .ok (.aload_n 0, 1) := by decide +kernel
theorem dX10_test_1 : decode cX10_test 1 = .ok (.iconst 0, 1) := by decide +kernel
theorem dX10_test_2 : decode cX10_test 2 = .ok (.putfield 57, 3) := by decide +kernel
theorem dX10_test_5 : decode cX10_test 5 = .ok (.iload_n 1, 1) := by decide +kernel
theorem dX10_test_6 : decode cX10_test 6 = .ok (.i2l, 1) := by decide +kernel
theorem dX10_test_7 : decode cX10_test 7 = .ok (.lconst 0, 1) := by decide +kernel
theorem dX10_test_8 : decode cX10_test 8 = .ok (.ldc2_w 172, 3) := by decide +kernel
theorem dX10_test_11 : decode cX10_test 11 = .ok (.invokestatic 63, 3) := by decide +kernel
theorem dX10_test_14 : decode cX10_test 14 = .ok (.ifCond .eq 17, 3) := by decide +kernel
theorem dX10_test_17 : decode cX10_test 17 = .ok (.iload_n 2, 1) := by decide +kernel
theorem dX10_test_18 : decode cX10_test 18 = .ok (.i2l, 1) := by decide +kernel
theorem dX10_test_19 : decode cX10_test 19 = .ok (.ldc2_w 119, 3) := by decide +kernel
theorem dX10_test_22 : decode cX10_test 22 = .ok (.ldc2_w 121, 3) := by decide +kernel
theorem dX10_test_25 : decode cX10_test 25 = .ok (.invokestatic 63, 3) := by decide +kernel
theorem dX10_test_28 : decode cX10_test 28 = .ok (.ifCond .ne 6, 3) := by decide +kernel
theorem dX10_test_31 : decode cX10_test 31 = .ok (.bipush (-2), 2) := by decide +kernel
theorem dX10_test_33 : decode cX10_test 33 = .ok (.ireturn, 1) := by decide +kernel
theorem dX10_test_34 : decode cX10_test 34 = .ok (.aload_n 0, 1) := by decide +kernel
theorem dX10_test_35 : decode cX10_test 35 = .ok (.getfield 95, 3) := by decide +kernel
theorem dX10_test_38 : decode cX10_test 38 = .ok (.bipush 6, 2) := by decide +kernel
theorem dX10_test_40 : decode cX10_test 40 = .ok (.if_icmp .ne 6, 3) := by decide +kernel
theorem dX10_test_43 : decode cX10_test 43 = .ok (.bipush (-4), 2) := by decide +kernel
theorem dX10_test_45 : decode cX10_test 45 = .ok (.ireturn, 1) := by decide +kernel
theorem dX10_test_46 : decode cX10_test 46 = .ok (.aload_n 0, 1) := by decide +kernel
theorem dX10_test_47 : decode cX10_test 47 = .ok (.getfield 48, 3) := by decide +kernel
theorem dX10_test_50 : decode cX10_test 50 = .ok (.aload_n 0, 1) := by decide +kernel
theorem dX10_test_51 : decode cX10_test 51 = .ok (.getfield 95, 3) := by decide +kernel
theorem dX10_test_54 : decode cX10_test 54 = .ok (.iload_n 1, 1) := by decide +kernel
theorem dX10_test_55 : decode cX10_test 55 = .ok (.iastore, 1) := by decide +kernel
theorem dX10_test_56 : decode cX10_test 56 = .ok (.aload_n 0, 1) := by decide +kernel
theorem dX10_test_57 : decode cX10_test 57 = .ok (.getfield 51, 3) := by decide +kernel
theorem dX10_test_60 : decode cX10_test 60 = .ok (.aload_n 0, 1) := by decide +kernel
theorem dX10_test_61 : decode cX10_test 61 = .ok (.getfield 95, 3) := by decide +kernel
theorem dX10_test_64 : decode cX10_test 64 = .ok (.iload_n 2, 1) := by decide +kernel
theorem dX10_test_65 : decode cX10_test 65 = .ok (.iastore, 1) := by decide +kernel
theorem dX10_test_66 : decode cX10_test 66 = .ok (.aload_n 0, 1) := by decide +kernel
theorem dX10_test_67 : decode cX10_test 67 = .ok (.dup, 1) := by decide +kernel
theorem dX10_test_68 : decode cX10_test 68 = .ok (.getfield 95, 3) := by decide +kernel
theorem dX10_test_71 : decode cX10_test 71 = .ok (.iconst 1, 1) := by decide +kernel
theorem dX10_test_72 : decode cX10_test 72 = .ok (.iadd, 1) := by decide +kernel
theorem dX10_test_73 : decode cX10_test 73 = .ok (.putfield 95, 3) := by decide +kernel
theorem dX10_test_76 : decode cX10_test 76 = .ok (.aload_n 0, 1) := by decide +kernel
theorem dX10_test_77 : decode cX10_test 77 = .ok (.getfield 95, 3) := by decide +kernel
theorem dX10_test_80 : decode cX10_test 80 = .ok (.ireturn, 1) := by decide +kernel
theorem dX10_untest_0 : decode cX10_untest 0 = .ok (.aload_n 0, 1) := by decide +kernel
theorem dX10_untest_1 : decode cX10_untest 1 = .ok (.iconst 0, 1) := by decide +kernel
theorem dX10_untest_2 : decode cX10_untest 2 = .ok (.putfield 57, 3) := by decide +kernel
theorem dX10_untest_5 : decode cX10_untest 5 = .ok (.aload_n 0, 1) := by decide +kernel
theorem dX10_untest_6 : decode cX10_untest 6 = .ok (.getfield 95, 3) := by decide +kernel
theorem dX10_untest_9 : decode cX10_untest 9 = .ok (.istore_n 1, 1) := by decide +kernel
theorem dX10_untest_10 : decode cX10_untest 10 = .ok (.aload_n 0, 1) := by decide +kernel
theorem dX10_untest_11 : decode cX10_untest 11 = .ok (.iconst 0, 1) := by decide +kernel
theorem dX10_untest_12 : decode cX10_untest 12 = .ok (.putfield 95, 3) := by decide +kernel
theorem dX10_untest_15 : decode cX10_untest 15 = .ok (.iload_n 1, 1) := by decide +kernel
theorem dX10_untest_16 : decode cX10_untest 16 = .ok (.ireturn, 1) := by decide +kernel
theorem dX10_findChanges_0 : decode cX10_findChanges 0 = .ok (.aload_n 0, 1) := by decide +kernel
theorem dX10_findChanges_1 : decode cX10_findChanges 1 = .ok (.iconst 0, 1) := by decide +kernel
theorem dX10_findChanges_2 : decode cX10_findChanges 2 = .ok (.putfield 174, 3) := by decide +kernel
theorem dX10_findChanges_5 : decode cX10_findChanges 5 = .ok (.aload_n 0, 1) := by decide +kernel
theorem dX10_findChanges_6 : decode cX10_findChanges 6 = .ok (.bipush (-9), 2) := by decide +kernel
theorem dX10_findChanges_8 : decode cX10_findChanges 8 = .ok (.putfield 177, 3) := by decide +kernel
theorem dX10_findChanges_11 : decode cX10_findChanges 11 = .ok (.aload_n 0, 1) := by decide +kernel
theorem dX10_findChanges_12 : decode cX10_findChanges 12 = .ok (.iconst 0, 1) := by decide +kernel
theorem dX10_findChanges_13 : decode cX10_findChanges 13 = .ok (.putfield 180, 3) := by decide +kernel
theorem dX10_findChanges_16 : decode cX10_findChanges 16 = .ok (.iconst 0, 1) := by decide +kernel
theorem dX10_findChanges_17 : decode cX10_findChanges 17 = .ok (.istore_n 1, 1) := by decide +kernel
theorem dX10_findChanges_18 : decode cX10_findChanges 18 = .ok (.iload_n 1, 1) := by decide +kernel
theorem dX10_findChanges_19 : decode cX10_findChanges 19 = .ok (.bipush 8, 2) := by decide +kernel
theorem dX10_findChanges_21 : decode cX10_findChanges 21 = .ok (.if_icmp .gt 152, 3) := by decide +kernel
theorem dX10_findChanges_24 : decode cX10_findChanges 24 = .ok (.bipush (-9), 2) := by decide +kernel
theorem dX10_findChanges_26 : decode cX10_findChanges 26 = .ok (.istore_n 2, 1) := by decide +kernel
theorem dX10_findChanges_27 : decode cX10_findChanges 27 = .ok (.iload_n 2, 1) := by decide +kernel
theorem dX10_findChanges_28 : decode cX10_findChanges 28 = .ok (.bipush 9, 2) := by decide +kernel
theorem dX10_findChanges_30 : decode cX10_findChanges 30 = .ok (.if_icmp .gt 137, 3) := by decide +kernel
theorem dX10_findChanges_33 : decode cX10_findChanges 33 = .ok (.iconst 1, 1) := by decide +kernel
theorem dX10_findChanges_34 : decode cX10_findChanges 34 = .ok (.istore_n 3, 1) := by decide +kernel
theorem dX10_findChanges_35 : decode cX10_findChanges 35 = .ok (.iconst 0, 1) := by decide +kernel
theorem dX10_findChanges_36 : decode cX10_findChanges 36 = .ok (.istore 4, 2) := by decide +kernel
theorem dX10_findChanges_38 : decode cX10_findChanges 38 = .ok (.iload 4, 2) := by decide +kernel
theorem dX10_findChanges_40 : decode cX10_findChanges 40 = .ok (.aload_n 0, 1) := by decide +kernel
theorem dX10_findChanges_41 : decode cX10_findChanges 41 = .ok (.getfield 95, 3) := by decide +kernel
theorem dX10_findChanges_44 : decode cX10_findChanges 44 = .ok (.if_icmp .ge 48, 3) := by decide +kernel
theorem dX10_findChanges_47 : decode cX10_findChanges 47 = .ok (.iload_n 3, 1) := by decide +kernel
theorem dX10_findChanges_48 : decode cX10_findChanges 48 = .ok (.ifCond .eq 36, 3) := by decide +kernel
theorem dX10_findChanges_51 : decode cX10_findChanges 51 = .ok (.aload_n 0, 1) := by decide +kernel
theorem dX10_findChanges_52 : decode cX10_findChanges 52 = .ok (.getfield 51, 3) := by decide +kernel
theorem dX10_findChanges_55 : decode cX10_findChanges 55 = .ok (.iload 4, 2) := by decide +kernel
theorem dX10_findChanges_57 : decode cX10_findChanges 57 = .ok (.iaload, 1) := by decide +kernel
theorem dX10_findChanges_58 : decode cX10_findChanges 58 = .ok (.aload_n 0, 1) := by decide +kernel
theorem dX10_findChanges_59 : decode cX10_findChanges 59 = .ok (.getfield 48, 3) := by decide +kernel
theorem dX10_findChanges_62 : decode cX10_findChanges 62 = .ok (.iload 4, 2) := by decide +kernel
theorem dX10_findChanges_64 : decode cX10_findChanges 64 = .ok (.iaload, 1) := by decide +kernel
theorem dX10_findChanges_65 : decode cX10_findChanges 65 = .ok (.iload_n 1, 1) := by decide +kernel
theorem dX10_findChanges_66 : decode cX10_findChanges 66 = .ok (.if_icmp .ge 10, 3) := by decide +kernel
theorem dX10_findChanges_69 : decode cX10_findChanges 69 = .ok (.aload_n 0, 1) := by decide +kernel
theorem dX10_findChanges_70 : decode cX10_findChanges 70 = .ok (.getfield 86, 3) := by decide +kernel
theorem dX10_findChanges_73 : decode cX10_findChanges 73 = .ok (.goto 4, 3) := by decide +kernel
theorem dX10_findChanges_76 : decode cX10_findChanges 76 = .ok (.iload_n 2, 1) := by decide +kernel
theorem dX10_findChanges_77 : decode cX10_findChanges 77 = .ok (.if_icmp .ne 7, 3) := by decide +kernel
theorem dX10_findChanges_80 : decode cX10_findChanges 80 = .ok (.iconst 1, 1) := by decide +kernel
theorem dX10_findChanges_81 : decode cX10_findChanges 81 = .ok (.goto 4, 3) := by decide +kernel
theorem dX10_findChanges_84 : decode cX10_findChanges 84 = .ok (.iconst 0, 1) := by decide +kernel
theorem dX10_findChanges_85 : decode cX10_findChanges 85 = .ok (.istore_n 3, 1) := by decide +kernel
theorem dX10_findChanges_86 : decode cX10_findChanges 86 = .ok (.iinc 4 1, 3) := by decide +kernel
theorem dX10_findChanges_89 : decode cX10_findChanges 89 = .ok (.goto (-51), 3) := by decide +kernel
theorem dX10_findChanges_92 : decode cX10_findChanges 92 = .ok (.aload_n 0, 1) := by decide +kernel
theorem dX10_findChanges_93 : decode cX10_findChanges 93 = .ok (.iload_n 3, 1) := by decide +kernel
theorem dX10_findChanges_94 : decode cX10_findChanges 94 = .ok (.ifCond .eq 22, 3) := by decide +kernel
theorem dX10_findChanges_97 : decode cX10_findChanges 97 = .ok (.aload_n 0, 1) := by decide +kernel
theorem dX10_findChanges_98 : decode cX10_findChanges 98 = .ok (.getfield 174, 3) := by decide +kernel
theorem dX10_findChanges_101 : decode cX10_findChanges 101 = .ok (.ifCond .ne 15, 3) := by decide +kernel
theorem dX10_findChanges_104 : decode cX10_findChanges 104 = .ok (.bipush 100, 2) := by decide +kernel
theorem dX10_findChanges_106 : decode cX10_findChanges 106 = .ok (.iload_n 1, 1) := by decide +kernel
theorem dX10_findChanges_107 : decode cX10_findChanges 107 = .ok (.imul, 1) := by decide +kernel
theorem dX10_findChanges_108 : decode cX10_findChanges 108 = .ok (.iload_n 2, 1) := by decide +kernel
theorem dX10_findChanges_109 : decode cX10_findChanges 109 = .ok (.iadd, 1) := by decide +kernel
theorem dX10_findChanges_110 : decode cX10_findChanges 110 = .ok (.bipush 50, 2) := by decide +kernel
theorem dX10_findChanges_112 : decode cX10_findChanges 112 = .ok (.iadd, 1) := by decide +kernel
theorem dX10_findChanges_113 : decode cX10_findChanges 113 = .ok (.goto 7, 3) := by decide +kernel
theorem dX10_findChanges_116 : decode cX10_findChanges 116 = .ok (.aload_n 0, 1) := by decide +kernel
theorem dX10_findChanges_117 : decode cX10_findChanges 117 = .ok (.getfield 177, 3) := by decide +kernel
theorem dX10_findChanges_120 : decode cX10_findChanges 120 = .ok (.putfield 177, 3) := by decide +kernel
theorem dX10_findChanges_123 : decode cX10_findChanges 123 = .ok (.aload_n 0, 1) := by decide +kernel
theorem dX10_findChanges_124 : decode cX10_findChanges 124 = .ok (.dup, 1) := by decide +kernel
theorem dX10_findChanges_125 : decode cX10_findChanges 125 = .ok (.getfield 174, 3) := by decide +kernel
theorem dX10_findChanges_128 : decode cX10_findChanges 128 = .ok (.iload_n 3, 1) := by decide +kernel
theorem dX10_findChanges_129 : decode cX10_findChanges 129 = .ok (.ifCond .eq 7, 3) := by decide +kernel
theorem dX10_findChanges_132 : decode cX10_findChanges 132 = .ok (.iconst 1, 1) := by decide +kernel
theorem dX10_findChanges_133 : decode cX10_findChanges 133 = .ok (.goto 4, 3) := by decide +kernel
theorem dX10_findChanges_136 : decode cX10_findChanges 136 = .ok (.iconst 0, 1) := by decide +kernel
theorem dX10_findChanges_137 : decode cX10_findChanges 137 = .ok (.iadd, 1) := by decide +kernel
theorem dX10_findChanges_138 : decode cX10_findChanges 138 = .ok (.putfield 174, 3) := by decide +kernel
theorem dX10_findChanges_141 : decode cX10_findChanges 141 = .ok (.aload_n 0, 1) := by decide +kernel
theorem dX10_findChanges_142 : decode cX10_findChanges 142 = .ok (.dup, 1) := by decide +kernel
theorem dX10_findChanges_143 : decode cX10_findChanges 143 = .ok (.getfield 180, 3) := by decide +kernel
theorem dX10_findChanges_146 : decode cX10_findChanges 146 = .ok (.iload_n 3, 1) := by decide +kernel
theorem dX10_findChanges_147 : decode cX10_findChanges 147 = .ok (.ifCond .eq 9, 3) := by decide +kernel
theorem dX10_findChanges_150 : decode cX10_findChanges 150 = .ok (.iconst 1, 1) := by decide +kernel
theorem dX10_findChanges_151 : decode cX10_findChanges 151 = .ok (.iload_n 1, 1) := by decide +kernel
theorem dX10_findChanges_152 : decode cX10_findChanges 152 = .ok (.ishl, 1) := by decide +kernel
theorem dX10_findChanges_153 : decode cX10_findChanges 153 = .ok (.goto 4, 3) := by decide +kernel
theorem dX10_findChanges_156 : decode cX10_findChanges 156 = .ok (.iconst 0, 1) := by decide +kernel
theorem dX10_findChanges_157 : decode cX10_findChanges 157 = .ok (.ior, 1) := by decide +kernel
theorem dX10_findChanges_158 : decode cX10_findChanges 158 = .ok (.putfield 180, 3) := by decide +kernel
theorem dX10_findChanges_161 : decode cX10_findChanges 161 = .ok (.iinc 2 1, 3) := by decide +kernel
theorem dX10_findChanges_164 : decode cX10_findChanges 164 = .ok (.goto (-137), 3) := by decide +kernel
theorem dX10_findChanges_167 : decode cX10_findChanges 167 = .ok (.iinc 1 1, 3) := by decide +kernel
theorem dX10_findChanges_170 : decode cX10_findChanges 170 = .ok (.goto (-152), 3) := by decide +kernel
theorem dX10_findChanges_173 : decode cX10_findChanges 173 = .ok (.return_, 1) := by decide +kernel
set_option maxRecDepth 20000 in
theorem ggX10_changes_X10_in : GoodIn wsX10_changes wsX10_in := goodIn_r _ [9] (by decide +kernel) (by decide +kernel)
set_option maxRecDepth 20000 in
theorem gX10_changes_X10_in : GoodIn wsX10_changes (va_wsS RX10 63 yX10_in wsX10_in) := goodIn_app (goodIn_of _ (by decide +kernel)) ggX10_changes_X10_in
set_option maxRecDepth 20000 in
theorem ggX10_changes_X10_findChanges : GoodIn wsX10_changes wsX10_findChanges := goodIn_r _ [13, 3, 4, 5, 14, 15, 16, 17, 18, 19, 20, 21, 22, 23, 24, 25, 26, 27, 28, 29, 30, 31, 32, 33, 34, 35, 36, 37, 38, 39, 40, 41, 42, 43, 44, 45, 46, 47, 48] (by decide +kernel) (by decide +kernel)
set_option maxRecDepth 20000 in
theorem gX10_changes_X10_findChanges : GoodIn wsX10_changes (wsV RX10 183 RX10 yX10_findChanges wsX10_findChanges) := goodIn_app (goodIn_of _ (by decide +kernel)) ggX10_changes_X10_findChanges
theorem dX10_changes_0 : decode cX10_changes 0 = .ok (.aload_n 0, 1) := by decide +kernel
theorem dX10_changes_1 : decode cX10_changes 1 = .ok (.iconst 0, 1) := by decide +kernel
theorem dX10_changes_2 : decode cX10_changes 2 = .ok (.putfield 57, 3) := by decide +kernel
theorem dX10_changes_5 : decode cX10_changes 5 = .ok (.iload_n 1, 1) := by decide +kernel
theorem dX10_changes_6 : decode cX10_changes 6 = .ok (.i2l, 1) := by decide +kernel
theorem dX10_changes_7 : decode cX10_changes 7 = .ok (.lconst 0, 1) := by decide +kernel
theorem dX10_changes_8 : decode cX10_changes 8 = .ok (.ldc2_w 166, 3) := by decide +kernel
theorem dX10_changes_11 : decode cX10_changes 11 = .ok (.invokestatic 63, 3) := by decide +kernel
theorem dX10_changes_14 : decode cX10_changes 14 = .ok (.ifCond .ne 6, 3) := by decide +kernel
theorem dX10_changes_17 : decode cX10_changes 17 = .ok (.bipush (-2), 2) := by decide +kernel
theorem dX10_changes_19 : decode cX10_changes 19 = .ok (.ireturn, 1) := by decide +kernel
theorem dX10_changes_20 : decode cX10_changes 20 = .ok (.aload_n 0, 1) := by decide +kernel
theorem dX10_changes_21 : decode cX10_changes 21 = .ok (.invokevirtual 183, 3) := by decide +kernel
theorem dX10_changes_24 : decode cX10_changes 24 = .ok (.iload_n 1, 1) := by decide +kernel
theorem dX10_changes_25 : decode cX10_changes 25 = .ok (.ifCond .ne 8, 3) := by decide +kernel
theorem dX10_changes_28 : decode cX10_changes 28 = .ok (.aload_n 0, 1) := by decide +kernel
theorem dX10_changes_29 : decode cX10_changes 29 = .ok (.getfield 174, 3) := by decide +kernel
theorem dX10_changes_32 : decode cX10_changes 32 = .ok (.ireturn, 1) := by decide +kernel
theorem dX10_changes_33 : decode cX10_changes 33 = .ok (.aload_n 0, 1) := by decide +kernel
theorem dX10_changes_34 : decode cX10_changes 34 = .ok (.getfield 174, 3) := by decide +kernel
theorem dX10_changes_37 : decode cX10_changes 37 = .ok (.ifCond .ne 8, 3) := by decide +kernel
theorem dX10_changes_40 : decode cX10_changes 40 = .ok (.bipush (-9), 2) := by decide +kernel
theorem dX10_changes_42 : decode cX10_changes 42 = .ok (.goto 19, 3) := by decide +kernel
theorem dX10_changes_45 : decode cX10_changes 45 = .ok (.iload_n 1, 1) := by decide +kernel
theorem dX10_changes_46 : decode cX10_changes 46 = .ok (.iconst 1, 1) := by decide +kernel
theorem dX10_changes_47 : decode cX10_changes 47 = .ok (.if_icmp .ne 10, 3) := by decide +kernel
theorem dX10_changes_50 : decode cX10_changes 50 = .ok (.aload_n 0, 1) := by decide +kernel
theorem dX10_changes_51 : decode cX10_changes 51 = .ok (.getfield 177, 3) := by decide +kernel
theorem dX10_changes_54 : decode cX10_changes 54 = .ok (.goto 7, 3) := by decide +kernel
theorem dX10_changes_57 : decode cX10_changes 57 = .ok (.aload_n 0, 1) := by decide +kernel
theorem dX10_changes_58 : decode cX10_changes 58 = .ok (.getfield 180, 3) := by decide +kernel
theorem dX10_changes_61 : decode cX10_changes 61 = .ok (.ireturn, 1) := by decide +kernel
set_option maxRecDepth 20000 in
theorem ggX10_lossOf_X10_errorOf : GoodIn wsX10_lossOf wsX10_errorOf := goodIn_r _ [6, 1, 7, 8, 9, 10, 11, 5, 12, 13, 17, 18, 19, 20, 21, 22, 23, 24, 25, 26, 27, 28, 29, 30, 31, 32, 33, 34, 35, 36, 37, 38, 39, 40, 41, 42, 43, 44, 45, 46, 47] (by decide +kernel) (by decide +kernel)
set_option maxRecDepth 20000 in
theorem gX10_lossOf_X10_errorOf : GoodIn wsX10_lossOf (wsV RX10 108 RX10 yX10_errorOf wsX10_errorOf) := goodIn_app (goodIn_of _ (by decide +kernel)) ggX10_lossOf_X10_errorOf
set_option maxRecDepth 20000 in
theorem ggX10_lossOf_X10_size : GoodIn wsX10_lossOf wsX10_size := goodIn_r _ [16] (by decide +kernel) (by decide +kernel)
set_option maxRecDepth 20000 in
theorem gX10_lossOf_X10_size : GoodIn wsX10_lossOf (va_wsS RX10 132 yX10_size wsX10_size) := goodIn_app (goodIn_of _ (by decide +kernel)) ggX10_lossOf_X10_size
theorem dX10_lossOf_0 : decode cX10_lossOf 0 = .ok (.iconst 0, 1) := by decide +kernel
theorem dX10_lossOf_1 : decode cX10_lossOf 1 = .ok (.istore 5, 2) := by decide +kernel
theorem dX10_lossOf_3 : decode cX10_lossOf 3 = .ok (.iconst 0, 1) := by decide +kernel
theorem dX10_lossOf_4 : decode cX10_lossOf 4 = .ok (.istore 6, 2) := by decide +kernel
theorem dX10_lossOf_6 : decode cX10_lossOf 6 = .ok (.iload 6, 2) := by decide +kernel
theorem dX10_lossOf_8 : decode cX10_lossOf 8 = .ok (.iload_n 1, 1) := by decide +kernel
theorem dX10_lossOf_9 : decode cX10_lossOf 9 = .ok (.if_icmp .ge 53, 3) := by decide +kernel
theorem dX10_lossOf_12 : decode cX10_lossOf 12 = .ok (.aload_n 0, 1) := by decide +kernel
theorem dX10_lossOf_13 : decode cX10_lossOf 13 = .ok (.getfield 35, 3) := by decide +kernel
theorem dX10_lossOf_16 : decode cX10_lossOf 16 = .ok (.iconst 5, 1) := by decide +kernel
theorem dX10_lossOf_17 : decode cX10_lossOf 17 = .ok (.iaload, 1) := by decide +kernel
theorem dX10_lossOf_18 : decode cX10_lossOf 18 = .ok (.iload 6, 2) := by decide +kernel
theorem dX10_lossOf_20 : decode cX10_lossOf 20 = .ok (.iadd, 1) := by decide +kernel
theorem dX10_lossOf_21 : decode cX10_lossOf 21 = .ok (.iconst 2, 1) := by decide +kernel
theorem dX10_lossOf_22 : decode cX10_lossOf 22 = .ok (.irem, 1) := by decide +kernel
theorem dX10_lossOf_23 : decode cX10_lossOf 23 = .ok (.istore 7, 2) := by decide +kernel
theorem dX10_lossOf_25 : decode cX10_lossOf 25 = .ok (.iload 5, 2) := by decide +kernel
theorem dX10_lossOf_27 : decode cX10_lossOf 27 = .ok (.aload_n 0, 1) := by decide +kernel
theorem dX10_lossOf_28 : decode cX10_lossOf 28 = .ok (.aload_n 0, 1) := by decide +kernel
theorem dX10_lossOf_29 : decode cX10_lossOf 29 = .ok (.getfield 35, 3) := by decide +kernel
theorem dX10_lossOf_32 : decode cX10_lossOf 32 = .ok (.iconst 0, 1) := by decide +kernel
theorem dX10_lossOf_33 : decode cX10_lossOf 33 = .ok (.iaload, 1) := by decide +kernel
theorem dX10_lossOf_34 : decode cX10_lossOf 34 = .ok (.iload 6, 2) := by decide +kernel
theorem dX10_lossOf_36 : decode cX10_lossOf 36 = .ok (.iadd, 1) := by decide +kernel
theorem dX10_lossOf_37 : decode cX10_lossOf 37 = .ok (.iload 7, 2) := by decide +kernel
theorem dX10_lossOf_39 : decode cX10_lossOf 39 = .ok (.invokevirtual 108, 3) := by decide +kernel
theorem dX10_lossOf_42 : decode cX10_lossOf 42 = .ok (.iload 7, 2) := by decide +kernel
theorem dX10_lossOf_44 : decode cX10_lossOf 44 = .ok (.ifCond .ne 7, 3) := by decide +kernel
theorem dX10_lossOf_47 : decode cX10_lossOf 47 = .ok (.iload_n 2, 1) := by decide +kernel
theorem dX10_lossOf_48 : decode cX10_lossOf 48 = .ok (.goto 4, 3) := by decide +kernel
theorem dX10_lossOf_51 : decode cX10_lossOf 51 = .ok (.iload_n 3, 1) := by decide +kernel
theorem dX10_lossOf_52 : decode cX10_lossOf 52 = .ok (.iadd, 1) := by decide +kernel
theorem dX10_lossOf_53 : decode cX10_lossOf 53 = .ok (.iadd, 1) := by decide +kernel
theorem dX10_lossOf_54 : decode cX10_lossOf 54 = .ok (.istore 5, 2) := by decide +kernel
theorem dX10_lossOf_56 : decode cX10_lossOf 56 = .ok (.iinc 6 1, 3) := by decide +kernel
theorem dX10_lossOf_59 : decode cX10_lossOf 59 = .ok (.goto (-53), 3) := by decide +kernel
theorem dX10_lossOf_62 : decode cX10_lossOf 62 = .ok (.iload 5, 2) := by decide +kernel
theorem dX10_lossOf_64 : decode cX10_lossOf 64 = .ok (.invokestatic 132, 3) := by decide +kernel
theorem dX10_lossOf_67 : decode cX10_lossOf 67 = .ok (.iconst 2, 1) := by decide +kernel
theorem dX10_lossOf_68 : decode cX10_lossOf 68 = .ok (.iload 4, 2) := by decide +kernel
theorem dX10_lossOf_70 : decode cX10_lossOf 70 = .ok (.invokestatic 132, 3) := by decide +kernel
theorem dX10_lossOf_73 : decode cX10_lossOf 73 = .ok (.imul, 1) := by decide +kernel
theorem dX10_lossOf_74 : decode cX10_lossOf 74 = .ok (.iadd, 1) := by decide +kernel
theorem dX10_lossOf_75 : decode cX10_lossOf 75 = .ok (.ireturn, 1) := by decide +kernel
set_option maxRecDepth 20000 in
theorem ggX10_findRests_X10_lossOf : GoodIn wsX10_findRests wsX10_lossOf := goodIn_r _ [7, 8, 9, 10, 11, 6, 12, 13, 14, 15, 16, 17, 18, 19, 20, 21, 22, 23, 24, 25, 26, 27, 28, 29, 30, 31, 32, 33, 34, 35, 36, 37, 38, 39, 40, 41, 42, 43, 44, 45, 46, 47, 48, 49, 50, 51, 52, 53] (by decide +kernel) (by decide +kernel)
set_option maxRecDepth 20000 in
theorem gX10_findRests_X10_lossOf : GoodIn wsX10_findRests (wsV RX10 192 RX10 yX10_lossOf wsX10_lossOf) := goodIn_app (goodIn_of _ (by decide +kernel)) ggX10_findRests_X10_lossOf
theorem dX10_findRests_0 : decode cX10_findRests 0 = .ok (.aload_n 0, 1) := by decide +kernel
theorem dX10_findRests_1 : decode cX10_findRests 1 = .ok (.iconst 0, 1) := by decide +kernel
theorem dX10_findRests_2 : decode cX10_findRests 2 = .ok (.putfield 186, 3) := by decide +kernel
theorem dX10_findRests_5 : decode cX10_findRests 5 = .ok (.aload_n 0, 1) := by decide +kernel
theorem dX10_findRests_6 : decode cX10_findRests 6 = .ok (.bipush (-9), 2) := by decide +kernel
theorem dX10_findRests_8 : decode cX10_findRests 8 = .ok (.putfield 189, 3) := by decide +kernel
theorem dX10_findRests_11 : decode cX10_findRests 11 = .ok (.bipush (-2), 2) := by decide +kernel
theorem dX10_findRests_13 : decode cX10_findRests 13 = .ok (.istore_n 2, 1) := by decide +kernel
theorem dX10_findRests_14 : decode cX10_findRests 14 = .ok (.iload_n 2, 1) := by decide +kernel
theorem dX10_findRests_15 : decode cX10_findRests 15 = .ok (.iconst 2, 1) := by decide +kernel
theorem dX10_findRests_16 : decode cX10_findRests 16 = .ok (.if_icmp .gt 156, 3) := by decide +kernel
theorem dX10_findRests_19 : decode cX10_findRests 19 = .ok (.bipush (-2), 2) := by decide +kernel
theorem dX10_findRests_21 : decode cX10_findRests 21 = .ok (.istore_n 3, 1) := by decide +kernel
theorem dX10_findRests_22 : decode cX10_findRests 22 = .ok (.iload_n 3, 1) := by decide +kernel
theorem dX10_findRests_23 : decode cX10_findRests 23 = .ok (.iconst 2, 1) := by decide +kernel
theorem dX10_findRests_24 : decode cX10_findRests 24 = .ok (.if_icmp .gt 142, 3) := by decide +kernel
theorem dX10_findRests_27 : decode cX10_findRests 27 = .ok (.aload_n 0, 1) := by decide +kernel
theorem dX10_findRests_28 : decode cX10_findRests 28 = .ok (.iload_n 1, 1) := by decide +kernel
theorem dX10_findRests_29 : decode cX10_findRests 29 = .ok (.iload_n 2, 1) := by decide +kernel
theorem dX10_findRests_30 : decode cX10_findRests 30 = .ok (.iload_n 3, 1) := by decide +kernel
theorem dX10_findRests_31 : decode cX10_findRests 31 = .ok (.iload_n 2, 1) := by decide +kernel
theorem dX10_findRests_32 : decode cX10_findRests 32 = .ok (.invokevirtual 192, 3) := by decide +kernel
theorem dX10_findRests_35 : decode cX10_findRests 35 = .ok (.istore 4, 2) := by decide +kernel
theorem dX10_findRests_37 : decode cX10_findRests 37 = .ok (.aload_n 0, 1) := by decide +kernel
theorem dX10_findRests_38 : decode cX10_findRests 38 = .ok (.iload_n 1, 1) := by decide +kernel
theorem dX10_findRests_39 : decode cX10_findRests 39 = .ok (.iload_n 2, 1) := by decide +kernel
theorem dX10_findRests_40 : decode cX10_findRests 40 = .ok (.iload_n 3, 1) := by decide +kernel
theorem dX10_findRests_41 : decode cX10_findRests 41 = .ok (.iload_n 3, 1) := by decide +kernel
theorem dX10_findRests_42 : decode cX10_findRests 42 = .ok (.invokevirtual 192, 3) := by decide +kernel
theorem dX10_findRests_45 : decode cX10_findRests 45 = .ok (.istore 5, 2) := by decide +kernel
theorem dX10_findRests_47 : decode cX10_findRests 47 = .ok (.iconst 1, 1) := by decide +kernel
theorem dX10_findRests_48 : decode cX10_findRests 48 = .ok (.istore 6, 2) := by decide +kernel
theorem dX10_findRests_50 : decode cX10_findRests 50 = .ok (.bipush (-2), 2) := by decide +kernel
theorem dX10_findRests_52 : decode cX10_findRests 52 = .ok (.istore 7, 2) := by decide +kernel
theorem dX10_findRests_54 : decode cX10_findRests 54 = .ok (.iload 7, 2) := by decide +kernel
theorem dX10_findRests_56 : decode cX10_findRests 56 = .ok (.iconst 2, 1) := by decide +kernel
theorem dX10_findRests_57 : decode cX10_findRests 57 = .ok (.if_icmp .gt 51, 3) := by decide +kernel
theorem dX10_findRests_60 : decode cX10_findRests 60 = .ok (.iload 6, 2) := by decide +kernel
theorem dX10_findRests_62 : decode cX10_findRests 62 = .ok (.ifCond .eq 37, 3) := by decide +kernel
theorem dX10_findRests_65 : decode cX10_findRests 65 = .ok (.aload_n 0, 1) := by decide +kernel
theorem dX10_findRests_66 : decode cX10_findRests 66 = .ok (.iload_n 1, 1) := by decide +kernel
theorem dX10_findRests_67 : decode cX10_findRests 67 = .ok (.iload 7, 2) := by decide +kernel
theorem dX10_findRests_69 : decode cX10_findRests 69 = .ok (.iload_n 3, 1) := by decide +kernel
theorem dX10_findRests_70 : decode cX10_findRests 70 = .ok (.iload 7, 2) := by decide +kernel
theorem dX10_findRests_72 : decode cX10_findRests 72 = .ok (.invokevirtual 192, 3) := by decide +kernel
theorem dX10_findRests_75 : decode cX10_findRests 75 = .ok (.iload 4, 2) := by decide +kernel
theorem dX10_findRests_77 : decode cX10_findRests 77 = .ok (.if_icmp .lt 22, 3) := by decide +kernel
theorem dX10_findRests_80 : decode cX10_findRests 80 = .ok (.aload_n 0, 1) := by decide +kernel
theorem dX10_findRests_81 : decode cX10_findRests 81 = .ok (.iload_n 1, 1) := by decide +kernel
theorem dX10_findRests_82 : decode cX10_findRests 82 = .ok (.iload_n 2, 1) := by decide +kernel
theorem dX10_findRests_83 : decode cX10_findRests 83 = .ok (.iload 7, 2) := by decide +kernel
theorem dX10_findRests_85 : decode cX10_findRests 85 = .ok (.iload 7, 2) := by decide +kernel
theorem dX10_findRests_87 : decode cX10_findRests 87 = .ok (.invokevirtual 192, 3) := by decide +kernel
theorem dX10_findRests_90 : decode cX10_findRests 90 = .ok (.iload 5, 2) := by decide +kernel
theorem dX10_findRests_92 : decode cX10_findRests 92 = .ok (.if_icmp .lt 7, 3) := by decide +kernel
theorem dX10_findRests_95 : decode cX10_findRests 95 = .ok (.iconst 1, 1) := by decide +kernel
theorem dX10_findRests_96 : decode cX10_findRests 96 = .ok (.goto 4, 3) := by decide +kernel
theorem dX10_findRests_99 : decode cX10_findRests 99 = .ok (.iconst 0, 1) := by decide +kernel
theorem dX10_findRests_100 : decode cX10_findRests 100 = .ok (.istore 6, 2) := by decide +kernel
theorem dX10_findRests_102 : decode cX10_findRests 102 = .ok (.iinc 7 1, 3) := by decide +kernel
theorem dX10_findRests_105 : decode cX10_findRests 105 = .ok (.goto (-51), 3) := by decide +kernel
theorem dX10_findRests_108 : decode cX10_findRests 108 = .ok (.aload_n 0, 1) := by decide +kernel
theorem dX10_findRests_109 : decode cX10_findRests 109 = .ok (.iload 6, 2) := by decide +kernel
theorem dX10_findRests_111 : decode cX10_findRests 111 = .ok (.ifCond .eq 23, 3) := by decide +kernel
theorem dX10_findRests_114 : decode cX10_findRests 114 = .ok (.aload_n 0, 1) := by decide +kernel
theorem dX10_findRests_115 : decode cX10_findRests 115 = .ok (.getfield 186, 3) := by decide +kernel
theorem dX10_findRests_118 : decode cX10_findRests 118 = .ok (.ifCond .ne 16, 3) := by decide +kernel
theorem dX10_findRests_121 : decode cX10_findRests 121 = .ok (.bipush 10, 2) := by decide +kernel
theorem dX10_findRests_123 : decode cX10_findRests 123 = .ok (.iload_n 2, 1) := by decide +kernel
theorem dX10_findRests_124 : decode cX10_findRests 124 = .ok (.iconst 2, 1) := by decide +kernel
theorem dX10_findRests_125 : decode cX10_findRests 125 = .ok (.iadd, 1) := by decide +kernel
theorem dX10_findRests_126 : decode cX10_findRests 126 = .ok (.imul, 1) := by decide +kernel
theorem dX10_findRests_127 : decode cX10_findRests 127 = .ok (.iload_n 3, 1) := by decide +kernel
theorem dX10_findRests_128 : decode cX10_findRests 128 = .ok (.iadd, 1) := by decide +kernel
theorem dX10_findRests_129 : decode cX10_findRests 129 = .ok (.iconst 2, 1) := by decide +kernel
theorem dX10_findRests_130 : decode cX10_findRests 130 = .ok (.iadd, 1) := by decide +kernel
theorem dX10_findRests_131 : decode cX10_findRests 131 = .ok (.goto 7, 3) := by decide +kernel
theorem dX10_findRests_134 : decode cX10_findRests 134 = .ok (.aload_n 0, 1) := by decide +kernel
theorem dX10_findRests_135 : decode cX10_findRests 135 = .ok (.getfield 189, 3) := by decide +kernel
theorem dX10_findRests_138 : decode cX10_findRests 138 = .ok (.putfield 189, 3) := by decide +kernel
theorem dX10_findRests_141 : decode cX10_findRests 141 = .ok (.aload_n 0, 1) := by decide +kernel
theorem dX10_findRests_142 : decode cX10_findRests 142 = .ok (.dup, 1) := by decide +kernel
theorem dX10_findRests_143 : decode cX10_findRests 143 = .ok (.getfield 186, 3) := by decide +kernel
theorem dX10_findRests_146 : decode cX10_findRests 146 = .ok (.iload 6, 2) := by decide +kernel
theorem dX10_findRests_148 : decode cX10_findRests 148 = .ok (.ifCond .eq 7, 3) := by decide +kernel
theorem dX10_findRests_151 : decode cX10_findRests 151 = .ok (.iconst 1, 1) := by decide +kernel
theorem dX10_findRests_152 : decode cX10_findRests 152 = .ok (.goto 4, 3) := by decide +kernel
theorem dX10_findRests_155 : decode cX10_findRests 155 = .ok (.iconst 0, 1) := by decide +kernel
theorem dX10_findRests_156 : decode cX10_findRests 156 = .ok (.iadd, 1) := by decide +kernel
theorem dX10_findRests_157 : decode cX10_findRests 157 = .ok (.putfield 186, 3) := by decide +kernel
theorem dX10_findRests_160 : decode cX10_findRests 160 = .ok (.iinc 3 1, 3) := by decide +kernel
theorem dX10_findRests_163 : decode cX10_findRests 163 = .ok (.goto (-141), 3) := by decide +kernel
theorem dX10_findRests_166 : decode cX10_findRests 166 = .ok (.iinc 2 1, 3) := by decide +kernel
theorem dX10_findRests_169 : decode cX10_findRests 169 = .ok (.goto (-155), 3) := by decide +kernel
theorem dX10_findRests_172 : decode cX10_findRests 172 = .ok (.return_, 1) := by decide +kernel
set_option maxRecDepth 20000 in
theorem ggX10_rests_X10_ahead : GoodIn wsX10_rests wsX10_ahead := goodIn_r _ [8, 9, 10, 36, 37, 38, 39, 40, 41, 42, 43, 44, 45, 46, 47, 48, 49, 50, 51, 52, 53, 54, 55, 56, 57, 58, 59, 60, 61, 62, 63, 64, 65, 66] (by decide +kernel) (by decide +kernel)
set_option maxRecDepth 20000 in
theorem gX10_rests_X10_ahead : GoodIn wsX10_rests (wsV RX10 102 RX10 yX10_ahead wsX10_ahead) := goodIn_app (goodIn_of _ (by decide +kernel)) ggX10_rests_X10_ahead
set_option maxRecDepth 20000 in
theorem ggX10_rests_X10_in : GoodIn wsX10_rests wsX10_in := goodIn_r _ [13] (by decide +kernel) (by decide +kernel)
set_option maxRecDepth 20000 in
theorem gX10_rests_X10_in : GoodIn wsX10_rests (va_wsS RX10 63 yX10_in wsX10_in) := goodIn_app (goodIn_of _ (by decide +kernel)) ggX10_rests_X10_in
set_option maxRecDepth 20000 in
theorem ggX10_rests_X10_findRests : GoodIn wsX10_rests wsX10_findRests := goodIn_r _ [17, 2, 3, 18, 19, 20, 7, 21, 10, 22, 23, 24, 25, 26, 27, 28, 29, 30, 31, 32, 33, 34, 35, 36, 37, 38, 39, 40, 41, 42, 43, 44, 45, 46, 47, 48, 49, 50, 51, 52, 53, 54, 55, 56, 57, 58, 59, 60, 61, 62, 63, 64, 65, 66] (by decide +kernel) (by decide +kernel)
set_option maxRecDepth 20000 in
theorem gX10_rests_X10_findRests : GoodIn wsX10_rests (wsV RX10 196 RX10 yX10_findRests wsX10_findRests) := goodIn_app (goodIn_of _ (by decide +kernel)) ggX10_rests_X10_findRests
theorem dX10_rests_0 : decode cX10_rests 0 = .ok (.aload_n 0, 1) := by decide +kernel
theorem dX10_rests_1 : decode cX10_rests 1 = .ok (.iconst 0, 1) := by decide +kernel
theorem dX10_rests_2 : decode cX10_rests 2 = .ok (.putfield 57, 3) := by decide +kernel
theorem dX10_rests_5 : decode cX10_rests 5 = .ok (.iload_n 1, 1) := by decide +kernel
theorem dX10_rests_6 : decode cX10_rests 6 = .ok (.i2l, 1) := by decide +kernel
theorem dX10_rests_7 : decode cX10_rests 7 = .ok (.lconst 0, 1) := by decide +kernel
theorem dX10_rests_8 : decode cX10_rests 8 = .ok (.aload_n 0, 1) := by decide +kernel
theorem dX10_rests_9 : decode cX10_rests 9 = .ok (.invokevirtual 102, 3) := by decide +kernel
theorem dX10_rests_12 : decode cX10_rests 12 = .ok (.i2l, 1) := by decide +kernel
theorem dX10_rests_13 : decode cX10_rests 13 = .ok (.invokestatic 63, 3) := by decide +kernel
theorem dX10_rests_16 : decode cX10_rests 16 = .ok (.ifCond .eq 13, 3) := by decide +kernel
theorem dX10_rests_19 : decode cX10_rests 19 = .ok (.iload_n 2, 1) := by decide +kernel
theorem dX10_rests_20 : decode cX10_rests 20 = .ok (.i2l, 1) := by decide +kernel
theorem dX10_rests_21 : decode cX10_rests 21 = .ok (.lconst 0, 1) := by decide +kernel
theorem dX10_rests_22 : decode cX10_rests 22 = .ok (.lconst 1, 1) := by decide +kernel
theorem dX10_rests_23 : decode cX10_rests 23 = .ok (.invokestatic 63, 3) := by decide +kernel
theorem dX10_rests_26 : decode cX10_rests 26 = .ok (.ifCond .ne 6, 3) := by decide +kernel
theorem dX10_rests_29 : decode cX10_rests 29 = .ok (.bipush (-2), 2) := by decide +kernel
theorem dX10_rests_31 : decode cX10_rests 31 = .ok (.ireturn, 1) := by decide +kernel
theorem dX10_rests_32 : decode cX10_rests 32 = .ok (.aload_n 0, 1) := by decide +kernel
theorem dX10_rests_33 : decode cX10_rests 33 = .ok (.iload_n 1, 1) := by decide +kernel
theorem dX10_rests_34 : decode cX10_rests 34 = .ok (.invokevirtual 196, 3) := by decide +kernel
theorem dX10_rests_37 : decode cX10_rests 37 = .ok (.iload_n 2, 1) := by decide +kernel
theorem dX10_rests_38 : decode cX10_rests 38 = .ok (.ifCond .ne 10, 3) := by decide +kernel
theorem dX10_rests_41 : decode cX10_rests 41 = .ok (.aload_n 0, 1) := by decide +kernel
theorem dX10_rests_42 : decode cX10_rests 42 = .ok (.getfield 186, 3) := by decide +kernel
theorem dX10_rests_45 : decode cX10_rests 45 = .ok (.goto 7, 3) := by decide +kernel
theorem dX10_rests_48 : decode cX10_rests 48 = .ok (.aload_n 0, 1) := by decide +kernel
theorem dX10_rests_49 : decode cX10_rests 49 = .ok (.getfield 189, 3) := by decide +kernel
theorem dX10_rests_52 : decode cX10_rests 52 = .ok (.ireturn, 1) := by decide +kernel
set_option maxRecDepth 20000 in
theorem ggX10_chance_X10_in : GoodIn wsX10_chance wsX10_in := goodIn_r _ [8] (by decide +kernel) (by decide +kernel)
set_option maxRecDepth 20000 in
theorem gX10_chance_X10_in : GoodIn wsX10_chance (va_wsS RX10 63 yX10_in wsX10_in) := goodIn_app (goodIn_of _ (by decide +kernel)) ggX10_chance_X10_in
set_option maxRecDepth 20000 in
theorem ggX10_chance_X10_ahead : GoodIn wsX10_chance wsX10_ahead := goodIn_r _ [12, 13, 4, 29, 30, 31, 32, 33, 34, 35, 36, 37, 38, 39, 40, 41, 42, 43, 44, 45, 46, 47, 48, 49, 50, 51, 52, 53, 54, 55, 56, 57, 58, 59] (by decide +kernel) (by decide +kernel)
set_option maxRecDepth 20000 in
theorem gX10_chance_X10_ahead : GoodIn wsX10_chance (wsV RX10 102 RX10 yX10_ahead wsX10_ahead) := goodIn_app (goodIn_of _ (by decide +kernel)) ggX10_chance_X10_ahead
set_option maxRecDepth 20000 in
theorem ggX10_chance_X10_has : GoodIn wsX10_chance wsX10_has := goodIn_r _ [16] (by decide +kernel) (by decide +kernel)
set_option maxRecDepth 20000 in
theorem gX10_chance_X10_has : GoodIn wsX10_chance (va_wsS RX10 111 yX10_has wsX10_has) := goodIn_app (goodIn_of _ (by decide +kernel)) ggX10_chance_X10_has
set_option maxRecDepth 20000 in
theorem ggX10_chance_X10_many : GoodIn wsX10_chance wsX10_many := goodIn_r _ [19] (by decide +kernel) (by decide +kernel)
set_option maxRecDepth 20000 in
theorem gX10_chance_X10_many : GoodIn wsX10_chance (va_wsS RX10 145 yX10_many wsX10_many) := goodIn_app (goodIn_of _ (by decide +kernel)) ggX10_chance_X10_many
set_option maxRecDepth 20000 in
theorem ggX10_chance_X10_fraction : GoodIn wsX10_chance wsX10_fraction := goodIn_r _ [22, 23, 24, 7, 25, 26, 27, 28] (by decide +kernel) (by decide +kernel)
set_option maxRecDepth 20000 in
theorem gX10_chance_X10_fraction : GoodIn wsX10_chance (va_wsS RX10 157 yX10_fraction wsX10_fraction) := goodIn_app (goodIn_of _ (by decide +kernel)) ggX10_chance_X10_fraction
theorem dX10_chance_0 : decode cX10_chance 0 = .ok (.aload_n 0, 1) := by decide +kernel
theorem dX10_chance_1 : decode cX10_chance 1 = .ok (.iconst 0, 1) := by decide +kernel
theorem dX10_chance_2 : decode cX10_chance 2 = .ok (.putfield 57, 3) := by decide +kernel
theorem dX10_chance_5 : decode cX10_chance 5 = .ok (.iload_n 1, 1) := by decide +kernel
theorem dX10_chance_6 : decode cX10_chance 6 = .ok (.i2l, 1) := by decide +kernel
theorem dX10_chance_7 : decode cX10_chance 7 = .ok (.lconst 1, 1) := by decide +kernel
theorem dX10_chance_8 : decode cX10_chance 8 = .ok (.ldc2_w 199, 3) := by decide +kernel
theorem dX10_chance_11 : decode cX10_chance 11 = .ok (.invokestatic 63, 3) := by decide +kernel
theorem dX10_chance_14 : decode cX10_chance 14 = .ok (.ifCond .eq 23, 3) := by decide +kernel
theorem dX10_chance_17 : decode cX10_chance 17 = .ok (.iload_n 1, 1) := by decide +kernel
theorem dX10_chance_18 : decode cX10_chance 18 = .ok (.aload_n 0, 1) := by decide +kernel
theorem dX10_chance_19 : decode cX10_chance 19 = .ok (.invokevirtual 102, 3) := by decide +kernel
theorem dX10_chance_22 : decode cX10_chance 22 = .ok (.if_icmp .gt 15, 3) := by decide +kernel
theorem dX10_chance_25 : decode cX10_chance 25 = .ok (.iload_n 2, 1) := by decide +kernel
theorem dX10_chance_26 : decode cX10_chance 26 = .ok (.i2l, 1) := by decide +kernel
theorem dX10_chance_27 : decode cX10_chance 27 = .ok (.lconst 0, 1) := by decide +kernel
theorem dX10_chance_28 : decode cX10_chance 28 = .ok (.ldc2_w 199, 3) := by decide +kernel
theorem dX10_chance_31 : decode cX10_chance 31 = .ok (.invokestatic 63, 3) := by decide +kernel
theorem dX10_chance_34 : decode cX10_chance 34 = .ok (.ifCond .ne 6, 3) := by decide +kernel
theorem dX10_chance_37 : decode cX10_chance 37 = .ok (.bipush (-2), 2) := by decide +kernel
theorem dX10_chance_39 : decode cX10_chance 39 = .ok (.ireturn, 1) := by decide +kernel
theorem dX10_chance_40 : decode cX10_chance 40 = .ok (.iconst 0, 1) := by decide +kernel
theorem dX10_chance_41 : decode cX10_chance 41 = .ok (.istore 4, 2) := by decide +kernel
theorem dX10_chance_43 : decode cX10_chance 43 = .ok (.iconst 0, 1) := by decide +kernel
theorem dX10_chance_44 : decode cX10_chance 44 = .ok (.istore 5, 2) := by decide +kernel
theorem dX10_chance_46 : decode cX10_chance 46 = .ok (.iconst 0, 1) := by decide +kernel
theorem dX10_chance_47 : decode cX10_chance 47 = .ok (.istore 6, 2) := by decide +kernel
theorem dX10_chance_49 : decode cX10_chance 49 = .ok (.iload 6, 2) := by decide +kernel
theorem dX10_chance_51 : decode cX10_chance 51 = .ok (.iconst 1, 1) := by decide +kernel
theorem dX10_chance_52 : decode cX10_chance 52 = .ok (.iload_n 1, 1) := by decide +kernel
theorem dX10_chance_53 : decode cX10_chance 53 = .ok (.ishl, 1) := by decide +kernel
theorem dX10_chance_54 : decode cX10_chance 54 = .ok (.if_icmp .ge 95, 3) := by decide +kernel
theorem dX10_chance_57 : decode cX10_chance 57 = .ok (.iconst 1, 1) := by decide +kernel
theorem dX10_chance_58 : decode cX10_chance 58 = .ok (.istore 7, 2) := by decide +kernel
theorem dX10_chance_60 : decode cX10_chance 60 = .ok (.iconst 0, 1) := by decide +kernel
theorem dX10_chance_61 : decode cX10_chance 61 = .ok (.istore 8, 2) := by decide +kernel
theorem dX10_chance_63 : decode cX10_chance 63 = .ok (.iload 8, 2) := by decide +kernel
theorem dX10_chance_65 : decode cX10_chance 65 = .ok (.iload_n 1, 1) := by decide +kernel
theorem dX10_chance_66 : decode cX10_chance 66 = .ok (.if_icmp .ge 50, 3) := by decide +kernel
theorem dX10_chance_69 : decode cX10_chance 69 = .ok (.aload_n 0, 1) := by decide +kernel
theorem dX10_chance_70 : decode cX10_chance 70 = .ok (.getfield 26, 3) := by decide +kernel
theorem dX10_chance_73 : decode cX10_chance 73 = .ok (.aload_n 0, 1) := by decide +kernel
theorem dX10_chance_74 : decode cX10_chance 74 = .ok (.getfield 35, 3) := by decide +kernel
theorem dX10_chance_77 : decode cX10_chance 77 = .ok (.iconst 0, 1) := by decide +kernel
theorem dX10_chance_78 : decode cX10_chance 78 = .ok (.iaload, 1) := by decide +kernel
theorem dX10_chance_79 : decode cX10_chance 79 = .ok (.iload 8, 2) := by decide +kernel
theorem dX10_chance_81 : decode cX10_chance 81 = .ok (.iadd, 1) := by decide +kernel
theorem dX10_chance_82 : decode cX10_chance 82 = .ok (.iaload, 1) := by decide +kernel
theorem dX10_chance_83 : decode cX10_chance 83 = .ok (.istore 9, 2) := by decide +kernel
theorem dX10_chance_85 : decode cX10_chance 85 = .ok (.iload 7, 2) := by decide +kernel
theorem dX10_chance_87 : decode cX10_chance 87 = .ok (.iload 6, 2) := by decide +kernel
theorem dX10_chance_89 : decode cX10_chance 89 = .ok (.iload 8, 2) := by decide +kernel
theorem dX10_chance_91 : decode cX10_chance 91 = .ok (.invokestatic 111, 3) := by decide +kernel
theorem dX10_chance_94 : decode cX10_chance 94 = .ok (.ifCond .eq 8, 3) := by decide +kernel
theorem dX10_chance_97 : decode cX10_chance 97 = .ok (.iload 9, 2) := by decide +kernel
theorem dX10_chance_99 : decode cX10_chance 99 = .ok (.goto 8, 3) := by decide +kernel
theorem dX10_chance_102 : decode cX10_chance 102 = .ok (.bipush 10, 2) := by decide +kernel
theorem dX10_chance_104 : decode cX10_chance 104 = .ok (.iload 9, 2) := by decide +kernel
theorem dX10_chance_106 : decode cX10_chance 106 = .ok (.isub, 1) := by decide +kernel
theorem dX10_chance_107 : decode cX10_chance 107 = .ok (.imul, 1) := by decide +kernel
theorem dX10_chance_108 : decode cX10_chance 108 = .ok (.istore 7, 2) := by decide +kernel
theorem dX10_chance_110 : decode cX10_chance 110 = .ok (.iinc 8 1, 3) := by decide +kernel
theorem dX10_chance_113 : decode cX10_chance 113 = .ok (.goto (-50), 3) := by decide +kernel
theorem dX10_chance_116 : decode cX10_chance 116 = .ok (.iload 5, 2) := by decide +kernel
theorem dX10_chance_118 : decode cX10_chance 118 = .ok (.iload 7, 2) := by decide +kernel
theorem dX10_chance_120 : decode cX10_chance 120 = .ok (.iadd, 1) := by decide +kernel
theorem dX10_chance_121 : decode cX10_chance 121 = .ok (.istore 5, 2) := by decide +kernel
theorem dX10_chance_123 : decode cX10_chance 123 = .ok (.iload 4, 2) := by decide +kernel
theorem dX10_chance_125 : decode cX10_chance 125 = .ok (.iload 6, 2) := by decide +kernel
theorem dX10_chance_127 : decode cX10_chance 127 = .ok (.invokestatic 145, 3) := by decide +kernel
theorem dX10_chance_130 : decode cX10_chance 130 = .ok (.iload_n 2, 1) := by decide +kernel
theorem dX10_chance_131 : decode cX10_chance 131 = .ok (.if_icmp .ne 8, 3) := by decide +kernel
theorem dX10_chance_134 : decode cX10_chance 134 = .ok (.iload 7, 2) := by decide +kernel
theorem dX10_chance_136 : decode cX10_chance 136 = .ok (.goto 4, 3) := by decide +kernel
theorem dX10_chance_139 : decode cX10_chance 139 = .ok (.iconst 0, 1) := by decide +kernel
theorem dX10_chance_140 : decode cX10_chance 140 = .ok (.iadd, 1) := by decide +kernel
theorem dX10_chance_141 : decode cX10_chance 141 = .ok (.istore 4, 2) := by decide +kernel
theorem dX10_chance_143 : decode cX10_chance 143 = .ok (.iinc 6 1, 3) := by decide +kernel
theorem dX10_chance_146 : decode cX10_chance 146 = .ok (.goto (-97), 3) := by decide +kernel
theorem dX10_chance_149 : decode cX10_chance 149 = .ok (.iload 4, 2) := by decide +kernel
theorem dX10_chance_151 : decode cX10_chance 151 = .ok (.iload 5, 2) := by decide +kernel
theorem dX10_chance_153 : decode cX10_chance 153 = .ok (.iload_n 3, 1) := by decide +kernel
theorem dX10_chance_154 : decode cX10_chance 154 = .ok (.invokestatic 157, 3) := by decide +kernel
theorem dX10_chance_157 : decode cX10_chance 157 = .ok (.ireturn, 1) := by decide +kernel
theorem dX10_seed_0 : decode cX10_seed 0 = .ok (.aload_n 0, 1) := by decide +kernel
theorem dX10_seed_1 : decode cX10_seed 1 = .ok (.iconst 0, 1) := by decide +kernel
theorem dX10_seed_2 : decode cX10_seed 2 = .ok (.putfield 57, 3) := by decide +kernel
theorem dX10_seed_5 : decode cX10_seed 5 = .ok (.aload_n 0, 1) := by decide +kernel
theorem dX10_seed_6 : decode cX10_seed 6 = .ok (.getfield 201, 3) := by decide +kernel
theorem dX10_seed_9 : decode cX10_seed 9 = .ok (.lstore_n 3, 1) := by decide +kernel
theorem dX10_seed_10 : decode cX10_seed 10 = .ok (.aload_n 0, 1) := by decide +kernel
theorem dX10_seed_11 : decode cX10_seed 11 = .ok (.lload_n 1, 1) := by decide +kernel
theorem dX10_seed_12 : decode cX10_seed 12 = .ok (.putfield 201, 3) := by decide +kernel
theorem dX10_seed_15 : decode cX10_seed 15 = .ok (.lload_n 3, 1) := by decide +kernel
theorem dX10_seed_16 : decode cX10_seed 16 = .ok (.lreturn, 1) := by decide +kernel
set_option maxRecDepth 20000 in
theorem ggX10_days_X10_in : GoodIn wsX10_days wsX10_in := goodIn_r _ [13] (by decide +kernel) (by decide +kernel)
set_option maxRecDepth 20000 in
theorem gX10_days_X10_in : GoodIn wsX10_days (va_wsS RX10 63 yX10_in wsX10_in) := goodIn_app (goodIn_of _ (by decide +kernel)) ggX10_days_X10_in
theorem dX10_days_0 : decode cX10_days 0 = .ok (.aload_n 0, 1) := by decide +kernel
theorem dX10_days_1 : decode cX10_days 1 = .ok (.iconst 0, 1) := by decide +kernel
theorem dX10_days_2 : decode cX10_days 2 = .ok (.putfield 57, 3) := by decide +kernel
theorem dX10_days_5 : decode cX10_days 5 = .ok (.iload_n 1, 1) := by decide +kernel
theorem dX10_days_6 : decode cX10_days 6 = .ok (.i2l, 1) := by decide +kernel
theorem dX10_days_7 : decode cX10_days 7 = .ok (.lconst 1, 1) := by decide +kernel
theorem dX10_days_8 : decode cX10_days 8 = .ok (.ldc2_w 205, 3) := by decide +kernel
theorem dX10_days_11 : decode cX10_days 11 = .ok (.invokestatic 63, 3) := by decide +kernel
theorem dX10_days_14 : decode cX10_days 14 = .ok (.ifCond .ne 6, 3) := by decide +kernel
theorem dX10_days_17 : decode cX10_days 17 = .ok (.bipush (-2), 2) := by decide +kernel
theorem dX10_days_19 : decode cX10_days 19 = .ok (.ireturn, 1) := by decide +kernel
theorem dX10_days_20 : decode cX10_days 20 = .ok (.iconst 0, 1) := by decide +kernel
theorem dX10_days_21 : decode cX10_days 21 = .ok (.istore_n 2, 1) := by decide +kernel
theorem dX10_days_22 : decode cX10_days 22 = .ok (.iconst 0, 1) := by decide +kernel
theorem dX10_days_23 : decode cX10_days 23 = .ok (.istore_n 3, 1) := by decide +kernel
theorem dX10_days_24 : decode cX10_days 24 = .ok (.iload_n 3, 1) := by decide +kernel
theorem dX10_days_25 : decode cX10_days 25 = .ok (.iload_n 1, 1) := by decide +kernel
theorem dX10_days_26 : decode cX10_days 26 = .ok (.if_icmp .ge 79, 3) := by decide +kernel
theorem dX10_days_29 : decode cX10_days 29 = .ok (.aload_n 0, 1) := by decide +kernel
theorem dX10_days_30 : decode cX10_days 30 = .ok (.getfield 35, 3) := by decide +kernel
theorem dX10_days_33 : decode cX10_days 33 = .ok (.iconst 0, 1) := by decide +kernel
theorem dX10_days_34 : decode cX10_days 34 = .ok (.iaload, 1) := by decide +kernel
theorem dX10_days_35 : decode cX10_days 35 = .ok (.istore 4, 2) := by decide +kernel
theorem dX10_days_37 : decode cX10_days 37 = .ok (.iload 4, 2) := by decide +kernel
theorem dX10_days_39 : decode cX10_days 39 = .ok (.aload_n 0, 1) := by decide +kernel
theorem dX10_days_40 : decode cX10_days 40 = .ok (.getfield 60, 3) := by decide +kernel
theorem dX10_days_43 : decode cX10_days 43 = .ok (.if_icmp .ge 56, 3) := by decide +kernel
theorem dX10_days_46 : decode cX10_days 46 = .ok (.aload_n 0, 1) := by decide +kernel
theorem dX10_days_47 : decode cX10_days 47 = .ok (.aload_n 0, 1) := by decide +kernel
theorem dX10_days_48 : decode cX10_days 48 = .ok (.getfield 201, 3) := by decide +kernel
theorem dX10_days_51 : decode cX10_days 51 = .ok (.ldc2_w 207, 3) := by decide +kernel
theorem dX10_days_54 : decode cX10_days 54 = .ok (.lmul, 1) := by decide +kernel
theorem dX10_days_55 : decode cX10_days 55 = .ok (.ldc2_w 209, 3) := by decide +kernel
theorem dX10_days_58 : decode cX10_days 58 = .ok (.ladd, 1) := by decide +kernel
theorem dX10_days_59 : decode cX10_days 59 = .ok (.putfield 201, 3) := by decide +kernel
theorem dX10_days_62 : decode cX10_days 62 = .ok (.iload_n 2, 1) := by decide +kernel
theorem dX10_days_63 : decode cX10_days 63 = .ok (.aload_n 0, 1) := by decide +kernel
theorem dX10_days_64 : decode cX10_days 64 = .ok (.getfield 201, 3) := by decide +kernel
theorem dX10_days_67 : decode cX10_days 67 = .ok (.bipush 33, 2) := by decide +kernel
theorem dX10_days_69 : decode cX10_days 69 = .ok (.lushr, 1) := by decide +kernel
theorem dX10_days_70 : decode cX10_days 70 = .ok (.ldc2_w 164, 3) := by decide +kernel
theorem dX10_days_73 : decode cX10_days 73 = .ok (.lrem, 1) := by decide +kernel
theorem dX10_days_74 : decode cX10_days 74 = .ok (.aload_n 0, 1) := by decide +kernel
theorem dX10_days_75 : decode cX10_days 75 = .ok (.getfield 26, 3) := by decide +kernel
theorem dX10_days_78 : decode cX10_days 78 = .ok (.iload 4, 2) := by decide +kernel
theorem dX10_days_80 : decode cX10_days 80 = .ok (.iaload, 1) := by decide +kernel
theorem dX10_days_81 : decode cX10_days 81 = .ok (.i2l, 1) := by decide +kernel
theorem dX10_days_82 : decode cX10_days 82 = .ok (.lcmp, 1) := by decide +kernel
theorem dX10_days_83 : decode cX10_days 83 = .ok (.ifCond .ge 7, 3) := by decide +kernel
theorem dX10_days_86 : decode cX10_days 86 = .ok (.iconst 1, 1) := by decide +kernel
theorem dX10_days_87 : decode cX10_days 87 = .ok (.goto 4, 3) := by decide +kernel
theorem dX10_days_90 : decode cX10_days 90 = .ok (.iconst 0, 1) := by decide +kernel
theorem dX10_days_91 : decode cX10_days 91 = .ok (.iadd, 1) := by decide +kernel
theorem dX10_days_92 : decode cX10_days 92 = .ok (.istore_n 2, 1) := by decide +kernel
theorem dX10_days_93 : decode cX10_days 93 = .ok (.iinc 4 1, 3) := by decide +kernel
theorem dX10_days_96 : decode cX10_days 96 = .ok (.goto (-59), 3) := by decide +kernel
theorem dX10_days_99 : decode cX10_days 99 = .ok (.iinc 3 1, 3) := by decide +kernel
theorem dX10_days_102 : decode cX10_days 102 = .ok (.goto (-78), 3) := by decide +kernel
theorem dX10_days_105 : decode cX10_days 105 = .ok (.iload_n 2, 1) := by decide +kernel
theorem dX10_days_106 : decode cX10_days 106 = .ok (.ireturn, 1) := by decide +kernel
set_option maxRecDepth 20000 in
theorem ggX10_keep_X10_in : GoodIn wsX10_keep wsX10_in := goodIn_r _ [8] (by decide +kernel) (by decide +kernel)
set_option maxRecDepth 20000 in
theorem gX10_keep_X10_in : GoodIn wsX10_keep (va_wsS RX10 63 yX10_in wsX10_in) := goodIn_app (goodIn_of _ (by decide +kernel)) ggX10_keep_X10_in
theorem dX10_keep_0 : decode cX10_keep 0 = .ok (.aload_n 0, 1) := by decide +kernel
theorem dX10_keep_1 : decode cX10_keep 1 = .ok (.iconst 0, 1) := by decide +kernel
theorem dX10_keep_2 : decode cX10_keep 2 = .ok (.putfield 57, 3) := by decide +kernel
theorem dX10_keep_5 : decode cX10_keep 5 = .ok (.iload_n 1, 1) := by decide +kernel
theorem dX10_keep_6 : decode cX10_keep 6 = .ok (.i2l, 1) := by decide +kernel
theorem dX10_keep_7 : decode cX10_keep 7 = .ok (.lconst 0, 1) := by decide +kernel
theorem dX10_keep_8 : decode cX10_keep 8 = .ok (.lconst 1, 1) := by decide +kernel
theorem dX10_keep_9 : decode cX10_keep 9 = .ok (.invokestatic 63, 3) := by decide +kernel
theorem dX10_keep_12 : decode cX10_keep 12 = .ok (.ifCond .ne 5, 3) := by decide +kernel
theorem dX10_keep_15 : decode cX10_keep 15 = .ok (.iconst (-1), 1) := by decide +kernel
theorem dX10_keep_16 : decode cX10_keep 16 = .ok (.ireturn, 1) := by decide +kernel
theorem dX10_keep_17 : decode cX10_keep 17 = .ok (.aload_n 0, 1) := by decide +kernel
theorem dX10_keep_18 : decode cX10_keep 18 = .ok (.getfield 44, 3) := by decide +kernel
theorem dX10_keep_21 : decode cX10_keep 21 = .ok (.iload_n 1, 1) := by decide +kernel
theorem dX10_keep_22 : decode cX10_keep 22 = .ok (.iconst 1, 1) := by decide +kernel
theorem dX10_keep_23 : decode cX10_keep 23 = .ok (.bastore, 1) := by decide +kernel
theorem dX10_keep_24 : decode cX10_keep 24 = .ok (.iconst 0, 1) := by decide +kernel
theorem dX10_keep_25 : decode cX10_keep 25 = .ok (.istore_n 2, 1) := by decide +kernel
theorem dX10_keep_26 : decode cX10_keep 26 = .ok (.iload_n 2, 1) := by decide +kernel
theorem dX10_keep_27 : decode cX10_keep 27 = .ok (.bipush 16, 2) := by decide +kernel
theorem dX10_keep_29 : decode cX10_keep 29 = .ok (.if_icmp .ge 26, 3) := by decide +kernel
theorem dX10_keep_32 : decode cX10_keep 32 = .ok (.aload_n 0, 1) := by decide +kernel
theorem dX10_keep_33 : decode cX10_keep 33 = .ok (.getfield 41, 3) := by decide +kernel
theorem dX10_keep_36 : decode cX10_keep 36 = .ok (.bipush 16, 2) := by decide +kernel
theorem dX10_keep_38 : decode cX10_keep 38 = .ok (.iload_n 1, 1) := by decide +kernel
theorem dX10_keep_39 : decode cX10_keep 39 = .ok (.imul, 1) := by decide +kernel
theorem dX10_keep_40 : decode cX10_keep 40 = .ok (.iload_n 2, 1) := by decide +kernel
theorem dX10_keep_41 : decode cX10_keep 41 = .ok (.iadd, 1) := by decide +kernel
theorem dX10_keep_42 : decode cX10_keep 42 = .ok (.aload_n 0, 1) := by decide +kernel
theorem dX10_keep_43 : decode cX10_keep 43 = .ok (.getfield 35, 3) := by decide +kernel
theorem dX10_keep_46 : decode cX10_keep 46 = .ok (.iload_n 2, 1) := by decide +kernel
theorem dX10_keep_47 : decode cX10_keep 47 = .ok (.iaload, 1) := by decide +kernel
theorem dX10_keep_48 : decode cX10_keep 48 = .ok (.iastore, 1) := by decide +kernel
theorem dX10_keep_49 : decode cX10_keep 49 = .ok (.iinc 2 1, 3) := by decide +kernel
theorem dX10_keep_52 : decode cX10_keep 52 = .ok (.goto (-26), 3) := by decide +kernel
theorem dX10_keep_55 : decode cX10_keep 55 = .ok (.aload_n 0, 1) := by decide +kernel
theorem dX10_keep_56 : decode cX10_keep 56 = .ok (.getfield 35, 3) := by decide +kernel
theorem dX10_keep_59 : decode cX10_keep 59 = .ok (.iconst 0, 1) := by decide +kernel
theorem dX10_keep_60 : decode cX10_keep 60 = .ok (.iaload, 1) := by decide +kernel
theorem dX10_keep_61 : decode cX10_keep 61 = .ok (.ireturn, 1) := by decide +kernel
set_option maxRecDepth 20000 in
theorem ggX10_again_X10_in : GoodIn wsX10_again wsX10_in := goodIn_r _ [9] (by decide +kernel) (by decide +kernel)
set_option maxRecDepth 20000 in
theorem gX10_again_X10_in : GoodIn wsX10_again (va_wsS RX10 63 yX10_in wsX10_in) := goodIn_app (goodIn_of _ (by decide +kernel)) ggX10_again_X10_in
theorem dX10_again_0 : decode cX10_again 0 = .ok (.aload_n 0, 1) := by decide +kernel
theorem dX10_again_1 : decode cX10_again 1 = .ok (.iconst 0, 1) := by decide +kernel
theorem dX10_again_2 : decode cX10_again 2 = .ok (.putfield 57, 3) := by decide +kernel
theorem dX10_again_5 : decode cX10_again 5 = .ok (.iload_n 1, 1) := by decide +kernel
theorem dX10_again_6 : decode cX10_again 6 = .ok (.i2l, 1) := by decide +kernel
theorem dX10_again_7 : decode cX10_again 7 = .ok (.lconst 0, 1) := by decide +kernel
theorem dX10_again_8 : decode cX10_again 8 = .ok (.lconst 1, 1) := by decide +kernel
theorem dX10_again_9 : decode cX10_again 9 = .ok (.invokestatic 63, 3) := by decide +kernel
theorem dX10_again_12 : decode cX10_again 12 = .ok (.ifCond .ne 5, 3) := by decide +kernel
theorem dX10_again_15 : decode cX10_again 15 = .ok (.iconst (-1), 1) := by decide +kernel
theorem dX10_again_16 : decode cX10_again 16 = .ok (.ireturn, 1) := by decide +kernel
theorem dX10_again_17 : decode cX10_again 17 = .ok (.aload_n 0, 1) := by decide +kernel
theorem dX10_again_18 : decode cX10_again 18 = .ok (.getfield 44, 3) := by decide +kernel
theorem dX10_again_21 : decode cX10_again 21 = .ok (.iload_n 1, 1) := by decide +kernel
theorem dX10_again_22 : decode cX10_again 22 = .ok (.baload, 1) := by decide +kernel
theorem dX10_again_23 : decode cX10_again 23 = .ok (.ifCond .ne 6, 3) := by decide +kernel
theorem dX10_again_26 : decode cX10_again 26 = .ok (.bipush (-3), 2) := by decide +kernel
theorem dX10_again_28 : decode cX10_again 28 = .ok (.ireturn, 1) := by decide +kernel
theorem dX10_again_29 : decode cX10_again 29 = .ok (.iconst 0, 1) := by decide +kernel
theorem dX10_again_30 : decode cX10_again 30 = .ok (.istore_n 2, 1) := by decide +kernel
theorem dX10_again_31 : decode cX10_again 31 = .ok (.iload_n 2, 1) := by decide +kernel
theorem dX10_again_32 : decode cX10_again 32 = .ok (.bipush 16, 2) := by decide +kernel
theorem dX10_again_34 : decode cX10_again 34 = .ok (.if_icmp .ge 26, 3) := by decide +kernel
theorem dX10_again_37 : decode cX10_again 37 = .ok (.aload_n 0, 1) := by decide +kernel
theorem dX10_again_38 : decode cX10_again 38 = .ok (.getfield 35, 3) := by decide +kernel
theorem dX10_again_41 : decode cX10_again 41 = .ok (.iload_n 2, 1) := by decide +kernel
theorem dX10_again_42 : decode cX10_again 42 = .ok (.aload_n 0, 1) := by decide +kernel
theorem dX10_again_43 : decode cX10_again 43 = .ok (.getfield 41, 3) := by decide +kernel
theorem dX10_again_46 : decode cX10_again 46 = .ok (.bipush 16, 2) := by decide +kernel
theorem dX10_again_48 : decode cX10_again 48 = .ok (.iload_n 1, 1) := by decide +kernel
theorem dX10_again_49 : decode cX10_again 49 = .ok (.imul, 1) := by decide +kernel
theorem dX10_again_50 : decode cX10_again 50 = .ok (.iload_n 2, 1) := by decide +kernel
theorem dX10_again_51 : decode cX10_again 51 = .ok (.iadd, 1) := by decide +kernel
theorem dX10_again_52 : decode cX10_again 52 = .ok (.iaload, 1) := by decide +kernel
theorem dX10_again_53 : decode cX10_again 53 = .ok (.iastore, 1) := by decide +kernel
theorem dX10_again_54 : decode cX10_again 54 = .ok (.iinc 2 1, 3) := by decide +kernel
theorem dX10_again_57 : decode cX10_again 57 = .ok (.goto (-26), 3) := by decide +kernel
theorem dX10_again_60 : decode cX10_again 60 = .ok (.aload_n 0, 1) := by decide +kernel
theorem dX10_again_61 : decode cX10_again 61 = .ok (.iconst 0, 1) := by decide +kernel
theorem dX10_again_62 : decode cX10_again 62 = .ok (.putfield 89, 3) := by decide +kernel
theorem dX10_again_65 : decode cX10_again 65 = .ok (.aload_n 0, 1) := by decide +kernel
theorem dX10_again_66 : decode cX10_again 66 = .ok (.getfield 35, 3) := by decide +kernel
theorem dX10_again_69 : decode cX10_again 69 = .ok (.iconst 0, 1) := by decide +kernel
theorem dX10_again_70 : decode cX10_again 70 = .ok (.iaload, 1) := by decide +kernel
theorem dX10_again_71 : decode cX10_again 71 = .ok (.ireturn, 1) := by decide +kernel
