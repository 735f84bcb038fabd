set_option maxRecDepth 20000 in
theorem ggX9_init_X7_init : GoodIn wsX9_init wsX7_init := goodIn_r _ [42, 43, 2, 3, 44, 45, 46, 119, 120] (by decide +kernel) (by decide +kernel)
set_option maxRecDepth 20000 in
theorem gX9_init_X7_init_n9 : GoodIn wsX9_init (wsX7_init) := ggX9_init_X7_init
set_option maxRecDepth 20000 in
theorem ggX9_init_X3_init : GoodIn wsX9_init wsX3_init := goodIn_r _ [48, 49, 2, 3, 50, 51, 52, 53, 54, 55, 44, 56, 57, 58, 59, 131, 132, 133, 134, 135, 136, 137, 138, 139, 140] (by decide +kernel) (by decide +kernel)
set_option maxRecDepth 20000 in
theorem gX9_init_X3_init_n18 : GoodIn wsX9_init (wsX3_init) := ggX9_init_X3_init
set_option maxRecDepth 20000 in
theorem ggX9_init_X8_init : GoodIn wsX9_init wsX8_init := goodIn_r _ [61, 62, 2, 3, 63, 64, 65, 66, 67, 68, 69, 70, 44, 71, 141, 142, 143, 144, 145, 146, 147, 148, 149] (by decide +kernel) (by decide +kernel)
set_option maxRecDepth 20000 in
theorem gX9_init_X8_init_n25 : GoodIn wsX9_init (wsX8_init) := ggX9_init_X8_init
set_option maxRecDepth 20000 in
theorem ggX9_init_X0_init : GoodIn wsX9_init wsX0_init := goodIn_r _ [73, 74, 2, 3, 44, 75, 76, 77, 150, 151, 152] (by decide +kernel) (by decide +kernel)
set_option maxRecDepth 20000 in
theorem gX9_init_X0_init_n32 : GoodIn wsX9_init (wsX0_init) := ggX9_init_X0_init
set_option maxRecDepth 20000 in
theorem ggX9_init_X5_init : GoodIn wsX9_init wsX5_init := goodIn_r _ [79, 80, 2, 3, 44, 81, 82, 153, 154] (by decide +kernel) (by decide +kernel)
set_option maxRecDepth 20000 in
theorem gX9_init_X5_init_n39 : GoodIn wsX9_init (wsX5_init) := ggX9_init_X5_init
set_option maxRecDepth 20000 in
theorem ggX9_init_X6_init : GoodIn wsX9_init wsX6_init := goodIn_r _ [84, 85, 2, 3, 44, 86, 87, 88, 89, 90, 91, 155, 156, 157, 158, 159, 160] (by decide +kernel) (by decide +kernel)
set_option maxRecDepth 20000 in
theorem gX9_init_X6_init_n46 : GoodIn wsX9_init (wsX6_init) := ggX9_init_X6_init
set_option maxRecDepth 20000 in
theorem ggX9_init_X1_init : GoodIn wsX9_init wsX1_init := goodIn_r _ [94, 95, 2, 3, 44, 96, 97, 98, 161, 162, 163] (by decide +kernel) (by decide +kernel)
set_option maxRecDepth 20000 in
theorem gX9_init_X1_init : GoodIn wsX9_init (wsX1_init) := ggX9_init_X1_init
set_option maxRecDepth 20000 in
theorem ggX9_init_X2_init : GoodIn wsX9_init wsX2_init := goodIn_r _ [101, 102, 2, 3, 103, 104, 164, 165] (by decide +kernel) (by decide +kernel)
set_option maxRecDepth 20000 in
theorem gX9_init_X2_init : GoodIn wsX9_init (wsX2_init) := ggX9_init_X2_init
set_option maxRecDepth 20000 in
theorem ggX9_init_X4_init : GoodIn wsX9_init wsX4_init := goodIn_r _ [107, 108, 2, 3, 109, 110, 111, 112, 113, 114, 166, 167, 168, 169, 170, 171] (by decide +kernel) (by decide +kernel)
set_option maxRecDepth 20000 in
theorem gX9_init_X4_init : GoodIn wsX9_init (wsX4_init) := ggX9_init_X4_init
set_option maxRecDepth 20000 in
theorem ggX9_init_X8_begin : GoodIn wsX9_init wsX8_begin := goodIn_r _ [118, 63, 64, 65, 66, 67, 68, 69, 70, 131, 132, 133, 134, 135, 136, 137, 138, 139, 140, 141, 142, 143, 144, 145, 146, 147, 148, 149] (by decide +kernel) (by decide +kernel)
set_option maxRecDepth 20000 in
theorem gX9_init_X8_begin : GoodIn wsX9_init (wsV RX9 80 RX8 yX8_begin wsX8_begin) := goodIn_app (goodIn_of _ (by decide +kernel)) ggX9_init_X8_begin
theorem dX9_init_0 : decode cX9_init 0 = .ok (.aload_n 0, 1) := by decide +kernel
theorem dX9_init_1 : decode cX9_init 1 = .ok (.invokespecial 1, 3) := by decide +kernel
theorem dX9_init_4 : decode cX9_init 4 = .ok (.aload_n 0, 1) := by decide +kernel
theorem dX9_init_5 : decode cX9_init 5 = .ok (.new 7, 3) := by decide +kernel
theorem dX9_init_8 : decode cX9_init 8 = .ok (.dup, 1) := by decide +kernel
theorem dX9_init_9 : decode cX9_init 9 = .ok (.invokespecial 9, 3) := by decide +kernel
theorem dX9_init_12 : decode cX9_init 12 = .ok (.putfield 10, 3) := by decide +kernel
theorem dX9_init_15 : decode cX9_init 15 = .ok (.aload_n 0, 1) := by decide +kernel
theorem dX9_init_16 : decode cX9_init 16 = .ok (.new 16, 3) := by decide +kernel
theorem dX9_init_19 : decode cX9_init 19 = .ok (.dup, 1) := by decide +kernel
theorem dX9_init_20 : decode cX9_init 20 = .ok (.invokespecial 18, 3) := by decide +kernel
theorem dX9_init_23 : decode cX9_init 23 = .ok (.putfield 19, 3) := by decide +kernel
theorem dX9_init_26 : decode cX9_init 26 = .ok (.aload_n 0, 1) := by decide +kernel
theorem dX9_init_27 : decode cX9_init 27 = .ok (.new 23, 3) := by decide +kernel
theorem dX9_init_30 : decode cX9_init 30 = .ok (.dup, 1) := by decide +kernel
theorem dX9_init_31 : decode cX9_init 31 = .ok (.invokespecial 25, 3) := by decide +kernel
theorem dX9_init_34 : decode cX9_init 34 = .ok (.putfield 26, 3) := by decide +kernel
theorem dX9_init_37 : decode cX9_init 37 = .ok (.aload_n 0, 1) := by decide +kernel
theorem dX9_init_38 : decode cX9_init 38 = .ok (.new 30, 3) := by decide +kernel
theorem dX9_init_41 : decode cX9_init 41 = .ok (.dup, 1) := by decide +kernel
theorem dX9_init_42 : decode cX9_init 42 = .ok (.invokespecial 32, 3) := by decide +kernel
theorem dX9_init_45 : decode cX9_init 45 = .ok (.putfield 33, 3) := by decide +kernel
theorem dX9_init_48 : decode cX9_init 48 = .ok (.aload_n 0, 1) := by decide +kernel
theorem dX9_init_49 : decode cX9_init 49 = .ok (.new 37, 3) := by decide +kernel
theorem dX9_init_52 : decode cX9_init 52 = .ok (.dup, 1) := by decide +kernel
theorem dX9_init_53 : decode cX9_init 53 = .ok (.invokespecial 39, 3) := by decide +kernel
theorem dX9_init_56 : decode cX9_init 56 = .ok (.putfield 40, 3) := by decide +kernel
theorem dX9_init_59 : decode cX9_init 59 = .ok (.aload_n 0, 1) := by decide +kernel
theorem dX9_init_60 : decode cX9_init 60 = .ok (.new 44, 3) := by decide +kernel
theorem dX9_init_63 : decode cX9_init 63 = .ok (.dup, 1) := by decide +kernel
theorem dX9_init_64 : decode cX9_init 64 = .ok (.invokespecial 46, 3) := by decide +kernel
theorem dX9_init_67 : decode cX9_init 67 = .ok (.putfield 47, 3) := by decide +kernel
theorem dX9_init_70 : decode cX9_init 70 = .ok (.aload_n 0, 1) := by decide +kernel
theorem dX9_init_71 : decode cX9_init 71 = .ok (.new 51, 3) := by decide +kernel
theorem dX9_init_74 : decode cX9_init 74 = .ok (.dup, 1) := by decide +kernel
theorem dX9_init_75 : decode cX9_init 75 = .ok (.aload_n 0, 1) := by decide +kernel
theorem dX9_init_76 : decode cX9_init 76 = .ok (.getfield 19, 3) := by decide +kernel
theorem dX9_init_79 : decode cX9_init 79 = .ok (.aload_n 0, 1) := by decide +kernel
theorem dX9_init_80 : decode cX9_init 80 = .ok (.getfield 26, 3) := by decide +kernel
theorem dX9_init_83 : decode cX9_init 83 = .ok (.invokespecial 53, 3) := by decide +kernel
theorem dX9_init_86 : decode cX9_init 86 = .ok (.putfield 56, 3) := by decide +kernel
theorem dX9_init_89 : decode cX9_init 89 = .ok (.aload_n 0, 1) := by decide +kernel
theorem dX9_init_90 : decode cX9_init 90 = .ok (.new 60, 3) := by decide +kernel
theorem dX9_init_93 : decode cX9_init 93 = .ok (.dup, 1) := by decide +kernel
theorem dX9_init_94 : decode cX9_init 94 = .ok (.aload_n 0, 1) := by decide +kernel
theorem dX9_init_95 : decode cX9_init 95 = .ok (.getfield 19, 3) := by decide +kernel
theorem dX9_init_98 : decode cX9_init 98 = .ok (.aload_n 0, 1) := by decide +kernel
theorem dX9_init_99 : decode cX9_init 99 = .ok (.getfield 26, 3) := by decide +kernel
theorem dX9_init_102 : decode cX9_init 102 = .ok (.invokespecial 62, 3) := by decide +kernel
theorem dX9_init_105 : decode cX9_init 105 = .ok (.putfield 63, 3) := by decide +kernel
theorem dX9_init_108 : decode cX9_init 108 = .ok (.aload_n 0, 1) := by decide +kernel
theorem dX9_init_109 : decode cX9_init 109 = .ok (.new 67, 3) := by decide +kernel
theorem dX9_init_112 : decode cX9_init 112 = .ok (.dup, 1) := by decide +kernel
theorem dX9_init_113 : decode cX9_init 113 = .ok (.aload_n 0, 1) := by decide +kernel
theorem dX9_init_114 : decode cX9_init 114 = .ok (.getfield 56, 3) := by decide +kernel
theorem dX9_init_117 : decode cX9_init 117 = .ok (.invokespecial 69, 3) := by decide +kernel
theorem dX9_init_120 : decode cX9_init 120 = .ok (.putfield 72, 3) := by decide +kernel
theorem dX9_init_123 : decode cX9_init 123 = .ok (.aload_n 0, 1) := by decide +kernel
theorem dX9_init_124 : decode cX9_init 124 = .ok (.lconst 0, 1) := by decide +kernel
theorem dX9_init_125 : decode cX9_init 125 = .ok (.putfield 76, 3) := by decide +kernel
theorem dX9_init_128 : decode cX9_init 128 = .ok (.aload_n 0, 1) := by decide +kernel
theorem dX9_init_129 : decode cX9_init 129 = .ok (.getfield 26, 3) := by decide +kernel
theorem dX9_init_132 : decode cX9_init 132 = .ok (.aload_n 0, 1) := by decide +kernel
theorem dX9_init_133 : decode cX9_init 133 = .ok (.getfield 19, 3) := by decide +kernel
theorem dX9_init_136 : decode cX9_init 136 = .ok (.invokevirtual 80, 3) := by decide +kernel
theorem dX9_init_139 : decode cX9_init 139 = .ok (.return_, 1) := by decide +kernel
set_option maxRecDepth 20000 in
theorem ggX9_write_X7_append : GoodIn wsX9_write wsX7_append := goodIn_r _ [6, 7, 8, 19, 20] (by decide +kernel) (by decide +kernel)
set_option maxRecDepth 20000 in
theorem gX9_write_X7_append : GoodIn wsX9_write (wsV RX9 84 RX7 yX7_append wsX7_append) := goodIn_app (goodIn_of _ (by decide +kernel)) ggX9_write_X7_append
theorem dX9_write_0 : decode cX9_write 0 = .ok (.iload_n 1, 1) := by decide +kernel
theorem dX9_write_1 : decode cX9_write 1 = .ok (.ifCond .lt 10, 3) := by decide +kernel
theorem dX9_write_4 : decode cX9_write 4 = .ok (.iload_n 1, 1) := by decide +kernel
theorem dX9_write_5 : decode cX9_write 5 = .ok (.sipush 255, 3) := by decide +kernel
theorem dX9_write_8 : decode cX9_write 8 = .ok (.if_icmp .le 6, 3) := by decide +kernel
theorem dX9_write_11 : decode cX9_write 11 = .ok (.bipush (-2), 2) := by decide +kernel
theorem dX9_write_13 : decode cX9_write 13 = .ok (.ireturn, 1) := by decide +kernel
theorem dX9_write_14 : decode cX9_write 14 = .ok (.aload_n 0, 1) := by decide +kernel
theorem dX9_write_15 : decode cX9_write 15 = .ok (.getfield 10, 3) := by decide +kernel
theorem dX9_write_18 : decode cX9_write 18 = .ok (.iload_n 1, 1) := by decide +kernel
theorem dX9_write_19 : decode cX9_write 19 = .ok (.invokevirtual 84, 3) := by decide +kernel
theorem dX9_write_22 : decode cX9_write 22 = .ok (.ifCond .eq 13, 3) := by decide +kernel
theorem dX9_write_25 : decode cX9_write 25 = .ok (.aload_n 0, 1) := by decide +kernel
theorem dX9_write_26 : decode cX9_write 26 = .ok (.getfield 10, 3) := by decide +kernel
theorem dX9_write_29 : decode cX9_write 29 = .ok (.getfield 88, 3) := by decide +kernel
theorem dX9_write_32 : decode cX9_write 32 = .ok (.goto 5, 3) := by decide +kernel
theorem dX9_write_35 : decode cX9_write 35 = .ok (.bipush (-4), 2) := by decide +kernel
theorem dX9_write_37 : decode cX9_write 37 = .ok (.ireturn, 1) := by decide +kernel
theorem dX9_wipe_0 : decode cX9_wipe 0 = .ok (.aload_n 0, 1) := by decide +kernel
theorem dX9_wipe_1 : decode cX9_wipe 1 = .ok (.getfield 10, 3) := by decide +kernel
theorem dX9_wipe_4 : decode cX9_wipe 4 = .ok (.getfield 88, 3) := by decide +kernel
theorem dX9_wipe_7 : decode cX9_wipe 7 = .ok (.istore_n 1, 1) := by decide +kernel
theorem dX9_wipe_8 : decode cX9_wipe 8 = .ok (.aload_n 0, 1) := by decide +kernel
theorem dX9_wipe_9 : decode cX9_wipe 9 = .ok (.getfield 10, 3) := by decide +kernel
theorem dX9_wipe_12 : decode cX9_wipe 12 = .ok (.iconst 0, 1) := by decide +kernel
theorem dX9_wipe_13 : decode cX9_wipe 13 = .ok (.putfield 88, 3) := by decide +kernel
theorem dX9_wipe_16 : decode cX9_wipe 16 = .ok (.iload_n 1, 1) := by decide +kernel
theorem dX9_wipe_17 : decode cX9_wipe 17 = .ok (.ireturn, 1) := by decide +kernel
set_option maxRecDepth 20000 in
theorem ggX9_fault_X7_firstFault : GoodIn wsX9_fault wsX7_firstFault := goodIn_r _ [6, 7, 8, 9, 10, 5, 11, 12, 13, 14, 15, 16, 17, 18, 19, 20, 21, 22, 23, 24, 25, 26, 27, 28, 29, 30, 31, 32, 43, 44] (by decide +kernel) (by decide +kernel)
set_option maxRecDepth 20000 in
theorem gX9_fault_X7_firstFault : GoodIn wsX9_fault (wsV RX9 92 RX7 yX7_firstFault wsX7_firstFault) := goodIn_app (goodIn_of _ (by decide +kernel)) ggX9_fault_X7_firstFault
theorem dX9_fault_0 : decode cX9_fault 0 = .ok (.aload_n 0, 1) := by decide +kernel
theorem dX9_fault_1 : decode cX9_fault 1 = .ok (.getfield 10, 3) := by decide +kernel
theorem dX9_fault_4 : decode cX9_fault 4 = .ok (.invokevirtual 92, 3) := by decide +kernel
theorem dX9_fault_7 : decode cX9_fault 7 = .ok (.ireturn, 1) := by decide +kernel
set_option maxRecDepth 20000 in
theorem ggX9_line_X7_firstFault : GoodIn wsX9_line wsX7_firstFault := goodIn_r _ [10, 11, 12, 13, 14, 9, 15, 16, 17, 18, 19, 20, 21, 22, 23, 24, 25, 26, 27, 28, 29, 30, 31, 32, 33, 34, 35, 36, 113, 114] (by decide +kernel) (by decide +kernel)
set_option maxRecDepth 20000 in
theorem gX9_line_X7_firstFault : GoodIn wsX9_line (wsV RX9 92 RX7 yX7_firstFault wsX7_firstFault) := goodIn_app (goodIn_of _ (by decide +kernel)) ggX9_line_X7_firstFault
set_option maxRecDepth 20000 in
theorem ggX9_line_X3_read : GoodIn wsX9_line wsX3_read := goodIn_r _ [41, 42, 43, 44, 45, 46, 47, 48, 49, 50, 51, 52, 53, 54, 55, 56, 57, 58, 59, 30, 31, 9, 32, 20, 21, 22, 23, 11, 24, 60, 61, 62, 63, 64, 65, 40, 66, 103, 104, 105, 106, 107, 108, 109, 110, 111, 112, 113, 114] (by decide +kernel) (by decide +kernel)
set_option maxRecDepth 20000 in
theorem gX9_line_X3_read : GoodIn wsX9_line (wsV RX9 96 RX3 yX3_read wsX3_read) := goodIn_app (goodIn_of _ (by decide +kernel)) ggX9_line_X3_read
set_option maxRecDepth 20000 in
theorem ggX9_line_X8_begin : GoodIn wsX9_line wsX8_begin := goodIn_r _ [71, 72, 73, 74, 75, 76, 77, 78, 79, 103, 104, 105, 106, 107, 108, 109, 110, 111, 112, 115, 116, 117, 118, 119, 120, 121, 122, 123] (by decide +kernel) (by decide +kernel)
set_option maxRecDepth 20000 in
theorem gX9_line_X8_begin : GoodIn wsX9_line (wsV RX9 80 RX8 yX8_begin wsX8_begin) := goodIn_app (goodIn_of _ (by decide +kernel)) ggX9_line_X8_begin
set_option maxRecDepth 20000 in
theorem ggX9_line_X0_forget : GoodIn wsX9_line wsX0_forget := goodIn_r _ [84, 85, 86, 124, 125, 126] (by decide +kernel) (by decide +kernel)
set_option maxRecDepth 20000 in
theorem gX9_line_X0_forget : GoodIn wsX9_line (wsV RX9 100 RX0 yX0_forget wsX0_forget) := goodIn_app (goodIn_of _ (by decide +kernel)) ggX9_line_X0_forget
set_option maxRecDepth 20000 in
theorem ggX9_line_X5_forget : GoodIn wsX9_line wsX5_forget := goodIn_r _ [91, 92, 127, 128] (by decide +kernel) (by decide +kernel)
set_option maxRecDepth 20000 in
theorem gX9_line_X5_forget : GoodIn wsX9_line (wsV RX9 103 RX5 yX5_forget wsX5_forget) := goodIn_app (goodIn_of _ (by decide +kernel)) ggX9_line_X5_forget
theorem dX9_line_0 : decode cX9_line 0 = .ok (.aload_n 0, 1) := by decide +kernel
theorem dX9_line_1 : decode cX9_line 1 = .ok (.getfield 10, 3) := by decide +kernel
theorem dX9_line_4 : decode cX9_line 4 = .ok (.invokevirtual 92, 3) := by decide +kernel
theorem dX9_line_7 : decode cX9_line 7 = .ok (.bipush (-9), 2) := by decide +kernel
theorem dX9_line_9 : decode cX9_line 9 = .ok (.if_icmp .eq 6, 3) := by decide +kernel
theorem dX9_line_12 : decode cX9_line 12 = .ok (.bipush (-3), 2) := by decide +kernel
theorem dX9_line_14 : decode cX9_line 14 = .ok (.ireturn, 1) := by decide +kernel
theorem dX9_line_15 : decode cX9_line 15 = .ok (.aload_n 0, 1) := by decide +kernel
theorem dX9_line_16 : decode cX9_line 16 = .ok (.getfield 19, 3) := by decide +kernel
theorem dX9_line_19 : decode cX9_line 19 = .ok (.aload_n 0, 1) := by decide +kernel
theorem dX9_line_20 : decode cX9_line 20 = .ok (.getfield 10, 3) := by decide +kernel
theorem dX9_line_23 : decode cX9_line 23 = .ok (.invokevirtual 96, 3) := by decide +kernel
theorem dX9_line_26 : decode cX9_line 26 = .ok (.aload_n 0, 1) := by decide +kernel
theorem dX9_line_27 : decode cX9_line 27 = .ok (.getfield 26, 3) := by decide +kernel
theorem dX9_line_30 : decode cX9_line 30 = .ok (.aload_n 0, 1) := by decide +kernel
theorem dX9_line_31 : decode cX9_line 31 = .ok (.getfield 19, 3) := by decide +kernel
theorem dX9_line_34 : decode cX9_line 34 = .ok (.invokevirtual 80, 3) := by decide +kernel
theorem dX9_line_37 : decode cX9_line 37 = .ok (.aload_n 0, 1) := by decide +kernel
theorem dX9_line_38 : decode cX9_line 38 = .ok (.getfield 33, 3) := by decide +kernel
theorem dX9_line_41 : decode cX9_line 41 = .ok (.invokevirtual 100, 3) := by decide +kernel
theorem dX9_line_44 : decode cX9_line 44 = .ok (.aload_n 0, 1) := by decide +kernel
theorem dX9_line_45 : decode cX9_line 45 = .ok (.getfield 40, 3) := by decide +kernel
theorem dX9_line_48 : decode cX9_line 48 = .ok (.invokevirtual 103, 3) := by decide +kernel
theorem dX9_line_51 : decode cX9_line 51 = .ok (.aload_n 0, 1) := by decide +kernel
theorem dX9_line_52 : decode cX9_line 52 = .ok (.getfield 19, 3) := by decide +kernel
theorem dX9_line_55 : decode cX9_line 55 = .ok (.getfield 104, 3) := by decide +kernel
theorem dX9_line_58 : decode cX9_line 58 = .ok (.ireturn, 1) := by decide +kernel
set_option maxRecDepth 20000 in
theorem ggX9_about_X3_bentOf : GoodIn wsX9_about wsX3_bentOf := goodIn_r _ [10, 11, 12, 23, 24, 25, 26, 27, 28, 29, 30, 31, 32] (by decide +kernel) (by decide +kernel)
set_option maxRecDepth 20000 in
theorem gX9_about_X3_bentOf : GoodIn wsX9_about (wsV RX9 138 RX3 yX3_bentOf wsX3_bentOf) := goodIn_app (goodIn_of _ (by decide +kernel)) ggX9_about_X3_bentOf
theorem dX9_about_0 : decode cX9_about 0 = .ok (.iload_n 1, 1) := by decide +kernel
theorem dX9_about_1 : decode cX9_about 1 = .ok (.tableswitch 204 0 14 #[75, 83, 91, 99, 107, 115, 123, 131, 139, 150, 158, 166, 174, 182, 193], 75) := by decide +kernel
theorem dX9_about_76 : decode cX9_about 76 = .ok (.aload_n 0, 1) := by decide +kernel
theorem dX9_about_77 : decode cX9_about 77 = .ok (.getfield 19, 3) := by decide +kernel
theorem dX9_about_80 : decode cX9_about 80 = .ok (.getfield 107, 3) := by decide +kernel
theorem dX9_about_83 : decode cX9_about 83 = .ok (.ireturn, 1) := by decide +kernel
theorem dX9_about_84 : decode cX9_about 84 = .ok (.aload_n 0, 1) := by decide +kernel
theorem dX9_about_85 : decode cX9_about 85 = .ok (.getfield 19, 3) := by decide +kernel
theorem dX9_about_88 : decode cX9_about 88 = .ok (.getfield 104, 3) := by decide +kernel
theorem dX9_about_91 : decode cX9_about 91 = .ok (.ireturn, 1) := by decide +kernel
theorem dX9_about_92 : decode cX9_about 92 = .ok (.aload_n 0, 1) := by decide +kernel
theorem dX9_about_93 : decode cX9_about 93 = .ok (.getfield 26, 3) := by decide +kernel
theorem dX9_about_96 : decode cX9_about 96 = .ok (.getfield 110, 3) := by decide +kernel
theorem dX9_about_99 : decode cX9_about 99 = .ok (.ireturn, 1) := by decide +kernel
theorem dX9_about_100 : decode cX9_about 100 = .ok (.aload_n 0, 1) := by decide +kernel
theorem dX9_about_101 : decode cX9_about 101 = .ok (.getfield 26, 3) := by decide +kernel
theorem dX9_about_104 : decode cX9_about 104 = .ok (.getfield 113, 3) := by decide +kernel
theorem dX9_about_107 : decode cX9_about 107 = .ok (.ireturn, 1) := by decide +kernel
theorem dX9_about_108 : decode cX9_about 108 = .ok (.aload_n 0, 1) := by decide +kernel
theorem dX9_about_109 : decode cX9_about 109 = .ok (.getfield 26, 3) := by decide +kernel
theorem dX9_about_112 : decode cX9_about 112 = .ok (.getfield 116, 3) := by decide +kernel
theorem dX9_about_115 : decode cX9_about 115 = .ok (.ireturn, 1) := by decide +kernel
theorem dX9_about_116 : decode cX9_about 116 = .ok (.aload_n 0, 1) := by decide +kernel
theorem dX9_about_117 : decode cX9_about 117 = .ok (.getfield 26, 3) := by decide +kernel
theorem dX9_about_120 : decode cX9_about 120 = .ok (.getfield 119, 3) := by decide +kernel
theorem dX9_about_123 : decode cX9_about 123 = .ok (.ireturn, 1) := by decide +kernel
theorem dX9_about_124 : decode cX9_about 124 = .ok (.aload_n 0, 1) := by decide +kernel
theorem dX9_about_125 : decode cX9_about 125 = .ok (.getfield 26, 3) := by decide +kernel
theorem dX9_about_128 : decode cX9_about 128 = .ok (.getfield 122, 3) := by decide +kernel
theorem dX9_about_131 : decode cX9_about 131 = .ok (.ireturn, 1) := by decide +kernel
theorem dX9_about_132 : decode cX9_about 132 = .ok (.aload_n 0, 1) := by decide +kernel
theorem dX9_about_133 : decode cX9_about 133 = .ok (.getfield 26, 3) := by decide +kernel
theorem dX9_about_136 : decode cX9_about 136 = .ok (.getfield 125, 3) := by decide +kernel
theorem dX9_about_139 : decode cX9_about 139 = .ok (.ireturn, 1) := by decide +kernel
theorem dX9_about_140 : decode cX9_about 140 = .ok (.aload_n 0, 1) := by decide +kernel
theorem dX9_about_141 : decode cX9_about 141 = .ok (.getfield 26, 3) := by decide +kernel
theorem dX9_about_144 : decode cX9_about 144 = .ok (.getfield 128, 3) := by decide +kernel
theorem dX9_about_147 : decode cX9_about 147 = .ok (.bipush 50, 2) := by decide +kernel
theorem dX9_about_149 : decode cX9_about 149 = .ok (.iadd, 1) := by decide +kernel
theorem dX9_about_150 : decode cX9_about 150 = .ok (.ireturn, 1) := by decide +kernel
theorem dX9_about_151 : decode cX9_about 151 = .ok (.aload_n 0, 1) := by decide +kernel
theorem dX9_about_152 : decode cX9_about 152 = .ok (.getfield 26, 3) := by decide +kernel
theorem dX9_about_155 : decode cX9_about 155 = .ok (.getfield 131, 3) := by decide +kernel
theorem dX9_about_158 : decode cX9_about 158 = .ok (.ireturn, 1) := by decide +kernel
theorem dX9_about_159 : decode cX9_about 159 = .ok (.aload_n 0, 1) := by decide +kernel
theorem dX9_about_160 : decode cX9_about 160 = .ok (.getfield 33, 3) := by decide +kernel
theorem dX9_about_163 : decode cX9_about 163 = .ok (.getfield 134, 3) := by decide +kernel
theorem dX9_about_166 : decode cX9_about 166 = .ok (.ireturn, 1) := by decide +kernel
theorem dX9_about_167 : decode cX9_about 167 = .ok (.aload_n 0, 1) := by decide +kernel
theorem dX9_about_168 : decode cX9_about 168 = .ok (.getfield 47, 3) := by decide +kernel
theorem dX9_about_171 : decode cX9_about 171 = .ok (.getfield 137, 3) := by decide +kernel
theorem dX9_about_174 : decode cX9_about 174 = .ok (.ireturn, 1) := by decide +kernel
theorem dX9_about_175 : decode cX9_about 175 = .ok (.aload_n 0, 1) := by decide +kernel
theorem dX9_about_176 : decode cX9_about 176 = .ok (.getfield 10, 3) := by decide +kernel
theorem dX9_about_179 : decode cX9_about 179 = .ok (.getfield 88, 3) := by decide +kernel
theorem dX9_about_182 : decode cX9_about 182 = .ok (.ireturn, 1) := by decide +kernel
theorem dX9_about_183 : decode cX9_about 183 = .ok (.aload_n 0, 1) := by decide +kernel
theorem dX9_about_184 : decode cX9_about 184 = .ok (.getfield 19, 3) := by decide +kernel
theorem dX9_about_187 : decode cX9_about 187 = .ok (.iconst 0, 1) := by decide +kernel
theorem dX9_about_188 : decode cX9_about 188 = .ok (.invokevirtual 138, 3) := by decide +kernel
theorem dX9_about_191 : decode cX9_about 191 = .ok (.iconst 5, 1) := by decide +kernel
theorem dX9_about_192 : decode cX9_about 192 = .ok (.iadd, 1) := by decide +kernel
theorem dX9_about_193 : decode cX9_about 193 = .ok (.ireturn, 1) := by decide +kernel
theorem dX9_about_194 : decode cX9_about 194 = .ok (.aload_n 0, 1) := by decide +kernel
theorem dX9_about_195 : decode cX9_about 195 = .ok (.getfield 19, 3) := by decide +kernel
theorem dX9_about_198 : decode cX9_about 198 = .ok (.iconst 1, 1) := by decide +kernel
theorem dX9_about_199 : decode cX9_about 199 = .ok (.invokevirtual 138, 3) := by decide +kernel
theorem dX9_about_202 : decode cX9_about 202 = .ok (.iconst 5, 1) := by decide +kernel
theorem dX9_about_203 : decode cX9_about 203 = .ok (.iadd, 1) := by decide +kernel
theorem dX9_about_204 : decode cX9_about 204 = .ok (.ireturn, 1) := by decide +kernel
theorem dX9_about_205 : decode cX9_about 205 = .ok (.bipush (-2), 2) := by decide +kernel
theorem dX9_about_207 : decode cX9_about 207 = .ok (.ireturn, 1) := by decide +kernel
set_option maxRecDepth 20000 in
theorem ggX9_stage_X3_has : GoodIn wsX9_stage wsX3_has := goodIn_r _ [7, 8, 52, 53, 54, 55, 56, 57, 58, 59, 60, 61] (by decide +kernel) (by decide +kernel)
set_option maxRecDepth 20000 in
theorem gX9_stage_X3_has : GoodIn wsX9_stage (wsV RX9 142 RX3 yX3_has wsX3_has) := goodIn_app (goodIn_of _ (by decide +kernel)) ggX9_stage_X3_has
set_option maxRecDepth 20000 in
theorem ggX9_stage_X3_kindOf : GoodIn wsX9_stage wsX3_kindOf := goodIn_r _ [12, 13, 14, 4, 5, 6, 7, 8, 52, 53, 54, 55, 56, 57, 58, 59, 60, 61] (by decide +kernel) (by decide +kernel)
set_option maxRecDepth 20000 in
theorem gX9_stage_X3_kindOf : GoodIn wsX9_stage (wsV RX9 145 RX3 yX3_kindOf wsX3_kindOf) := goodIn_app (goodIn_of _ (by decide +kernel)) ggX9_stage_X3_kindOf
set_option maxRecDepth 20000 in
theorem ggX9_stage_X3_valueOf : GoodIn wsX9_stage wsX3_valueOf := goodIn_r _ [18, 19, 14, 4, 5, 6, 7, 8, 52, 53, 54, 55, 56, 57, 58, 59, 60, 61] (by decide +kernel) (by decide +kernel)
set_option maxRecDepth 20000 in
theorem gX9_stage_X3_valueOf : GoodIn wsX9_stage (wsV RX9 148 RX3 yX3_valueOf wsX3_valueOf) := goodIn_app (goodIn_of _ (by decide +kernel)) ggX9_stage_X3_valueOf
set_option maxRecDepth 20000 in
theorem ggX9_stage_X3_gorseOf : GoodIn wsX9_stage wsX3_gorseOf := goodIn_r _ [23, 24, 14, 4, 5, 6, 7, 8, 52, 53, 54, 55, 56, 57, 58, 59, 60, 61] (by decide +kernel) (by decide +kernel)
set_option maxRecDepth 20000 in
theorem gX9_stage_X3_gorseOf : GoodIn wsX9_stage (wsV RX9 151 RX3 yX3_gorseOf wsX3_gorseOf) := goodIn_app (goodIn_of _ (by decide +kernel)) ggX9_stage_X3_gorseOf
set_option maxRecDepth 20000 in
theorem ggX9_stage_X8_isLaid : GoodIn wsX9_stage wsX8_isLaid := goodIn_r _ [29, 30, 62, 63, 64, 65, 66, 67, 68, 69, 70] (by decide +kernel) (by decide +kernel)
set_option maxRecDepth 20000 in
theorem gX9_stage_X8_isLaid : GoodIn wsX9_stage (wsV RX9 154 RX8 yX8_isLaid wsX8_isLaid) := goodIn_app (goodIn_of _ (by decide +kernel)) ggX9_stage_X8_isLaid
set_option maxRecDepth 20000 in
theorem ggX9_stage_X8_errorOf : GoodIn wsX9_stage wsX8_errorOf := goodIn_r _ [34, 35, 36, 26, 27, 28, 29, 30, 62, 63, 64, 65, 66, 67, 68, 69, 70] (by decide +kernel) (by decide +kernel)
set_option maxRecDepth 20000 in
theorem gX9_stage_X8_errorOf : GoodIn wsX9_stage (wsV RX9 157 RX8 yX8_errorOf wsX8_errorOf) := goodIn_app (goodIn_of _ (by decide +kernel)) ggX9_stage_X8_errorOf
set_option maxRecDepth 20000 in
theorem ggX9_stage_X8_isLost : GoodIn wsX9_stage wsX8_isLost := goodIn_r _ [40, 41, 36, 26, 27, 28, 29, 30, 62, 63, 64, 65, 66, 67, 68, 69, 70] (by decide +kernel) (by decide +kernel)
set_option maxRecDepth 20000 in
theorem gX9_stage_X8_isLost : GoodIn wsX9_stage (wsV RX9 160 RX8 yX8_isLost wsX8_isLost) := goodIn_app (goodIn_of _ (by decide +kernel)) ggX9_stage_X8_isLost
theorem dX9_stage_0 : decode cX9_stage 0 = .ok (.aload_n 0, 1) := by decide +kernel
theorem dX9_stage_1 : decode cX9_stage 1 = .ok (.getfield 19, 3) := by decide +kernel
theorem dX9_stage_4 : decode cX9_stage 4 = .ok (.iload_n 1, 1) := by decide +kernel
theorem dX9_stage_5 : decode cX9_stage 5 = .ok (.invokevirtual 142, 3) := by decide +kernel
theorem dX9_stage_8 : decode cX9_stage 8 = .ok (.ifCond .ne 5, 3) := by decide +kernel
theorem dX9_stage_11 : decode cX9_stage 11 = .ok (.iconst (-1), 1) := by decide +kernel
theorem dX9_stage_12 : decode cX9_stage 12 = .ok (.ireturn, 1) := by decide +kernel
theorem dX9_stage_13 : decode cX9_stage 13 = .ok (.iload_n 2, 1) := by decide +kernel
theorem dX9_stage_14 : decode cX9_stage 14 = .ok (.tableswitch 107 0 4 #[34, 43, 52, 61, 90], 34) := by decide +kernel
theorem dX9_stage_48 : decode cX9_stage 48 = .ok (.aload_n 0, 1) := by decide +kernel
theorem dX9_stage_49 : decode cX9_stage 49 = .ok (.getfield 19, 3) := by decide +kernel
theorem dX9_stage_52 : decode cX9_stage 52 = .ok (.iload_n 1, 1) := by decide +kernel
theorem dX9_stage_53 : decode cX9_stage 53 = .ok (.invokevirtual 145, 3) := by decide +kernel
theorem dX9_stage_56 : decode cX9_stage 56 = .ok (.ireturn, 1) := by decide +kernel
theorem dX9_stage_57 : decode cX9_stage 57 = .ok (.aload_n 0, 1) := by decide +kernel
theorem dX9_stage_58 : decode cX9_stage 58 = .ok (.getfield 19, 3) := by decide +kernel
theorem dX9_stage_61 : decode cX9_stage 61 = .ok (.iload_n 1, 1) := by decide +kernel
theorem dX9_stage_62 : decode cX9_stage 62 = .ok (.invokevirtual 148, 3) := by decide +kernel
theorem dX9_stage_65 : decode cX9_stage 65 = .ok (.ireturn, 1) := by decide +kernel
theorem dX9_stage_66 : decode cX9_stage 66 = .ok (.aload_n 0, 1) := by decide +kernel
theorem dX9_stage_67 : decode cX9_stage 67 = .ok (.getfield 19, 3) := by decide +kernel
theorem dX9_stage_70 : decode cX9_stage 70 = .ok (.iload_n 1, 1) := by decide +kernel
theorem dX9_stage_71 : decode cX9_stage 71 = .ok (.invokevirtual 151, 3) := by decide +kernel
theorem dX9_stage_74 : decode cX9_stage 74 = .ok (.ireturn, 1) := by decide +kernel
theorem dX9_stage_75 : decode cX9_stage 75 = .ok (.aload_n 0, 1) := by decide +kernel
theorem dX9_stage_76 : decode cX9_stage 76 = .ok (.getfield 26, 3) := by decide +kernel
theorem dX9_stage_79 : decode cX9_stage 79 = .ok (.iload_n 1, 1) := by decide +kernel
theorem dX9_stage_80 : decode cX9_stage 80 = .ok (.invokevirtual 154, 3) := by decide +kernel
theorem dX9_stage_83 : decode cX9_stage 83 = .ok (.ifCond .eq 18, 3) := by decide +kernel
theorem dX9_stage_86 : decode cX9_stage 86 = .ok (.aload_n 0, 1) := by decide +kernel
theorem dX9_stage_87 : decode cX9_stage 87 = .ok (.getfield 26, 3) := by decide +kernel
theorem dX9_stage_90 : decode cX9_stage 90 = .ok (.iload_n 1, 1) := by decide +kernel
theorem dX9_stage_91 : decode cX9_stage 91 = .ok (.invokevirtual 157, 3) := by decide +kernel
theorem dX9_stage_94 : decode cX9_stage 94 = .ok (.sipush 20000, 3) := by decide +kernel
theorem dX9_stage_97 : decode cX9_stage 97 = .ok (.iadd, 1) := by decide +kernel
theorem dX9_stage_98 : decode cX9_stage 98 = .ok (.goto 5, 3) := by decide +kernel
theorem dX9_stage_101 : decode cX9_stage 101 = .ok (.bipush (-9), 2) := by decide +kernel
theorem dX9_stage_103 : decode cX9_stage 103 = .ok (.ireturn, 1) := by decide +kernel
theorem dX9_stage_104 : decode cX9_stage 104 = .ok (.aload_n 0, 1) := by decide +kernel
theorem dX9_stage_105 : decode cX9_stage 105 = .ok (.getfield 26, 3) := by decide +kernel
theorem dX9_stage_108 : decode cX9_stage 108 = .ok (.iload_n 1, 1) := by decide +kernel
theorem dX9_stage_109 : decode cX9_stage 109 = .ok (.invokevirtual 160, 3) := by decide +kernel
theorem dX9_stage_112 : decode cX9_stage 112 = .ok (.ifCond .eq 7, 3) := by decide +kernel
theorem dX9_stage_115 : decode cX9_stage 115 = .ok (.iconst 1, 1) := by decide +kernel
theorem dX9_stage_116 : decode cX9_stage 116 = .ok (.goto 4, 3) := by decide +kernel
theorem dX9_stage_119 : decode cX9_stage 119 = .ok (.iconst 0, 1) := by decide +kernel
theorem dX9_stage_120 : decode cX9_stage 120 = .ok (.ireturn, 1) := by decide +kernel
theorem dX9_stage_121 : decode cX9_stage 121 = .ok (.bipush (-2), 2) := by decide +kernel
theorem dX9_stage_123 : decode cX9_stage 123 = .ok (.ireturn, 1) := by decide +kernel
theorem dX9_byBook_0 : decode cX9_byBook 0 = .ok (.aload_n 0, 1) := by decide +kernel
theorem dX9_byBook_1 : decode cX9_byBook 1 = .ok (.getfield 19, 3) := by decide +kernel
theorem dX9_byBook_4 : decode cX9_byBook 4 = .ok (.getfield 107, 3) := by decide +kernel
theorem dX9_byBook_7 : decode cX9_byBook 7 = .ok (.aload_n 0, 1) := by decide +kernel
theorem dX9_byBook_8 : decode cX9_byBook 8 = .ok (.getfield 26, 3) := by decide +kernel
theorem dX9_byBook_11 : decode cX9_byBook 11 = .ok (.getfield 119, 3) := by decide +kernel
theorem dX9_byBook_14 : decode cX9_byBook 14 = .ok (.imul, 1) := by decide +kernel
theorem dX9_byBook_15 : decode cX9_byBook 15 = .ok (.aload_n 0, 1) := by decide +kernel
theorem dX9_byBook_16 : decode cX9_byBook 16 = .ok (.getfield 26, 3) := by decide +kernel
theorem dX9_byBook_19 : decode cX9_byBook 19 = .ok (.getfield 116, 3) := by decide +kernel
theorem dX9_byBook_22 : decode cX9_byBook 22 = .ok (.iadd, 1) := by decide +kernel
theorem dX9_byBook_23 : decode cX9_byBook 23 = .ok (.ireturn, 1) := by decide +kernel
set_option maxRecDepth 20000 in
theorem ggX9_truly_X8_errorsTogether : GoodIn wsX9_truly wsX8_errorsTogether := goodIn_r _ [6, 7, 8, 9, 10, 5, 11, 12, 13, 14, 15, 16, 27, 28, 29, 30, 31, 32, 33, 34, 35] (by decide +kernel) (by decide +kernel)
set_option maxRecDepth 20000 in
theorem gX9_truly_X8_errorsTogether : GoodIn wsX9_truly (wsV RX9 163 RX8 yX8_errorsTogether wsX8_errorsTogether) := goodIn_app (goodIn_of _ (by decide +kernel)) ggX9_truly_X8_errorsTogether
theorem dX9_truly_0 : decode cX9_truly 0 = .ok (.sipush 20000, 3) := by decide +kernel
theorem dX9_truly_3 : decode cX9_truly 3 = .ok (.sipush 1000, 3) := by decide +kernel
theorem dX9_truly_6 : decode cX9_truly 6 = .ok (.aload_n 0, 1) := by decide +kernel
theorem dX9_truly_7 : decode cX9_truly 7 = .ok (.getfield 26, 3) := by decide +kernel
theorem dX9_truly_10 : decode cX9_truly 10 = .ok (.getfield 110, 3) := by decide +kernel
theorem dX9_truly_13 : decode cX9_truly 13 = .ok (.imul, 1) := by decide +kernel
theorem dX9_truly_14 : decode cX9_truly 14 = .ok (.iadd, 1) := by decide +kernel
theorem dX9_truly_15 : decode cX9_truly 15 = .ok (.aload_n 0, 1) := by decide +kernel
theorem dX9_truly_16 : decode cX9_truly 16 = .ok (.getfield 26, 3) := by decide +kernel
theorem dX9_truly_19 : decode cX9_truly 19 = .ok (.invokevirtual 163, 3) := by decide +kernel
theorem dX9_truly_22 : decode cX9_truly 22 = .ok (.iadd, 1) := by decide +kernel
theorem dX9_truly_23 : decode cX9_truly 23 = .ok (.ireturn, 1) := by decide +kernel
set_option maxRecDepth 20000 in
theorem ggX9_lay_X3_has : GoodIn wsX9_lay wsX3_has := goodIn_r _ [9, 10, 83, 84, 85, 86, 87, 88, 89, 90, 91, 92] (by decide +kernel) (by decide +kernel)
set_option maxRecDepth 20000 in
theorem gX9_lay_X3_has : GoodIn wsX9_lay (wsV RX9 142 RX3 yX3_has wsX3_has) := goodIn_app (goodIn_of _ (by decide +kernel)) ggX9_lay_X3_has
set_option maxRecDepth 20000 in
theorem ggX9_lay_X0_remember : GoodIn wsX9_lay wsX0_remember := goodIn_r _ [15, 16, 17, 18, 19, 20, 21, 14, 22, 23, 24, 25, 26, 27, 28, 29, 30, 31, 32, 33, 34, 35, 36, 37, 38, 39, 40, 93, 94, 95, 74, 75, 76, 77, 78, 79, 80, 81, 82] (by decide +kernel) (by decide +kernel)
set_option maxRecDepth 20000 in
theorem gX9_lay_X0_remember : GoodIn wsX9_lay (wsV RX9 166 RX0 yX0_remember wsX0_remember) := goodIn_app (goodIn_of _ (by decide +kernel)) ggX9_lay_X0_remember
set_option maxRecDepth 20000 in
theorem ggX9_lay_X1_errorAt : GoodIn wsX9_lay wsX1_errorAt := goodIn_r _ [45, 46, 47, 48, 49, 50, 8, 51, 52, 53, 6, 7, 9, 10, 54, 55, 56, 57, 58, 59, 96, 97, 98, 74, 75, 76, 77, 78, 79, 80, 81, 82, 83, 84, 85, 86, 87, 88, 89, 90, 91, 92] (by decide +kernel) (by decide +kernel)
set_option maxRecDepth 20000 in
theorem gX9_lay_X1_errorAt : GoodIn wsX9_lay (wsV RX9 170 RX1 yX1_errorAt wsX1_errorAt) := goodIn_app (goodIn_of _ (by decide +kernel)) ggX9_lay_X1_errorAt
set_option maxRecDepth 20000 in
theorem ggX9_lay_X8_pinAndPick : GoodIn wsX9_lay wsX8_pinAndPick := goodIn_r _ [63, 31, 28, 29, 30, 36, 74, 75, 76, 77, 78, 79, 80, 81, 82] (by decide +kernel) (by decide +kernel)
set_option maxRecDepth 20000 in
theorem gX9_lay_X8_pinAndPick : GoodIn wsX9_lay (wsV RX9 174 RX8 yX8_pinAndPick wsX8_pinAndPick) := goodIn_app (goodIn_of _ (by decide +kernel)) ggX9_lay_X8_pinAndPick
theorem dX9_lay_0 : decode cX9_lay 0 = .ok (.aload_n 0, 1) := by decide +kernel
theorem dX9_lay_1 : decode cX9_lay 1 = .ok (.getfield 26, 3) := by decide +kernel
theorem dX9_lay_4 : decode cX9_lay 4 = .ok (.getfield 110, 3) := by decide +kernel
theorem dX9_lay_7 : decode cX9_lay 7 = .ok (.istore_n 1, 1) := by decide +kernel
theorem dX9_lay_8 : decode cX9_lay 8 = .ok (.aload_n 0, 1) := by decide +kernel
theorem dX9_lay_9 : decode cX9_lay 9 = .ok (.getfield 19, 3) := by decide +kernel
theorem dX9_lay_12 : decode cX9_lay 12 = .ok (.iload_n 1, 1) := by decide +kernel
theorem dX9_lay_13 : decode cX9_lay 13 = .ok (.invokevirtual 142, 3) := by decide +kernel
theorem dX9_lay_16 : decode cX9_lay 16 = .ok (.ifCond .eq 21, 3) := by decide +kernel
theorem dX9_lay_19 : decode cX9_lay 19 = .ok (.aload_n 0, 1) := by decide +kernel
theorem dX9_lay_20 : decode cX9_lay 20 = .ok (.getfield 26, 3) := by decide +kernel
theorem dX9_lay_23 : decode cX9_lay 23 = .ok (.getfield 113, 3) := by decide +kernel
theorem dX9_lay_26 : decode cX9_lay 26 = .ok (.aload_n 0, 1) := by decide +kernel
theorem dX9_lay_27 : decode cX9_lay 27 = .ok (.getfield 26, 3) := by decide +kernel
theorem dX9_lay_30 : decode cX9_lay 30 = .ok (.getfield 116, 3) := by decide +kernel
theorem dX9_lay_33 : decode cX9_lay 33 = .ok (.iadd, 1) := by decide +kernel
theorem dX9_lay_34 : decode cX9_lay 34 = .ok (.ifCond .gt 6, 3) := by decide +kernel
theorem dX9_lay_37 : decode cX9_lay 37 = .ok (.bipush (-3), 2) := by decide +kernel
theorem dX9_lay_39 : decode cX9_lay 39 = .ok (.ireturn, 1) := by decide +kernel
theorem dX9_lay_40 : decode cX9_lay 40 = .ok (.aload_n 0, 1) := by decide +kernel
theorem dX9_lay_41 : decode cX9_lay 41 = .ok (.getfield 33, 3) := by decide +kernel
theorem dX9_lay_44 : decode cX9_lay 44 = .ok (.aload_n 0, 1) := by decide +kernel
theorem dX9_lay_45 : decode cX9_lay 45 = .ok (.getfield 26, 3) := by decide +kernel
theorem dX9_lay_48 : decode cX9_lay 48 = .ok (.invokevirtual 166, 3) := by decide +kernel
theorem dX9_lay_51 : decode cX9_lay 51 = .ok (.aload_n 0, 1) := by decide +kernel
theorem dX9_lay_52 : decode cX9_lay 52 = .ok (.getfield 56, 3) := by decide +kernel
theorem dX9_lay_55 : decode cX9_lay 55 = .ok (.iload_n 1, 1) := by decide +kernel
theorem dX9_lay_56 : decode cX9_lay 56 = .ok (.aload_n 0, 1) := by decide +kernel
theorem dX9_lay_57 : decode cX9_lay 57 = .ok (.getfield 26, 3) := by decide +kernel
theorem dX9_lay_60 : decode cX9_lay 60 = .ok (.getfield 125, 3) := by decide +kernel
theorem dX9_lay_63 : decode cX9_lay 63 = .ok (.invokevirtual 170, 3) := by decide +kernel
theorem dX9_lay_66 : decode cX9_lay 66 = .ok (.istore_n 2, 1) := by decide +kernel
theorem dX9_lay_67 : decode cX9_lay 67 = .ok (.aload_n 0, 1) := by decide +kernel
theorem dX9_lay_68 : decode cX9_lay 68 = .ok (.getfield 26, 3) := by decide +kernel
theorem dX9_lay_71 : decode cX9_lay 71 = .ok (.iload_n 2, 1) := by decide +kernel
theorem dX9_lay_72 : decode cX9_lay 72 = .ok (.invokevirtual 174, 3) := by decide +kernel
theorem dX9_lay_75 : decode cX9_lay 75 = .ok (.iload_n 2, 1) := by decide +kernel
theorem dX9_lay_76 : decode cX9_lay 76 = .ok (.sipush 20000, 3) := by decide +kernel
theorem dX9_lay_79 : decode cX9_lay 79 = .ok (.iadd, 1) := by decide +kernel
theorem dX9_lay_80 : decode cX9_lay 80 = .ok (.ireturn, 1) := by decide +kernel
set_option maxRecDepth 20000 in
theorem ggX9_lose_X8_isLaid : GoodIn wsX9_lose wsX8_isLaid := goodIn_r _ [7, 8, 56, 57, 58, 59, 60, 61, 62, 63, 64] (by decide +kernel) (by decide +kernel)
set_option maxRecDepth 20000 in
theorem gX9_lose_X8_isLaid : GoodIn wsX9_lose (wsV RX9 154 RX8 yX8_isLaid wsX8_isLaid) := goodIn_app (goodIn_of _ (by decide +kernel)) ggX9_lose_X8_isLaid
set_option maxRecDepth 20000 in
theorem ggX9_lose_X8_isLost : GoodIn wsX9_lose wsX8_isLost := goodIn_r _ [12, 13, 14, 4, 5, 6, 7, 8, 56, 57, 58, 59, 60, 61, 62, 63, 64] (by decide +kernel) (by decide +kernel)
set_option maxRecDepth 20000 in
theorem gX9_lose_X8_isLost : GoodIn wsX9_lose (wsV RX9 160 RX8 yX8_isLost wsX8_isLost) := goodIn_app (goodIn_of _ (by decide +kernel)) ggX9_lose_X8_isLost
set_option maxRecDepth 20000 in
theorem ggX9_lose_X0_remember : GoodIn wsX9_lose wsX0_remember := goodIn_r _ [19, 20, 21, 22, 23, 24, 25, 18, 26, 27, 28, 29, 6, 30, 31, 32, 33, 8, 13, 34, 35, 36, 37, 38, 39, 40, 41, 65, 66, 67, 56, 57, 58, 59, 60, 61, 62, 63, 64] (by decide +kernel) (by decide +kernel)
set_option maxRecDepth 20000 in
theorem gX9_lose_X0_remember : GoodIn wsX9_lose (wsV RX9 166 RX0 yX0_remember wsX0_remember) := goodIn_app (goodIn_of _ (by decide +kernel)) ggX9_lose_X0_remember
set_option maxRecDepth 20000 in
theorem ggX9_lose_X8_leaveBehind : GoodIn wsX9_lose wsX8_leaveBehind := goodIn_r _ [45, 13, 32, 56, 57, 58, 59, 60, 61, 62, 63, 64] (by decide +kernel) (by decide +kernel)
set_option maxRecDepth 20000 in
theorem gX9_lose_X8_leaveBehind : GoodIn wsX9_lose (wsV RX9 178 RX8 yX8_leaveBehind wsX8_leaveBehind) := goodIn_app (goodIn_of _ (by decide +kernel)) ggX9_lose_X8_leaveBehind
theorem dX9_lose_0 : decode cX9_lose 0 = .ok (.aload_n 0, 1) := by decide +kernel
theorem dX9_lose_1 : decode cX9_lose 1 = .ok (.getfield 26, 3) := by decide +kernel
theorem dX9_lose_4 : decode cX9_lose 4 = .ok (.getfield 110, 3) := by decide +kernel
theorem dX9_lose_7 : decode cX9_lose 7 = .ok (.iconst 1, 1) := by decide +kernel
theorem dX9_lose_8 : decode cX9_lose 8 = .ok (.isub, 1) := by decide +kernel
theorem dX9_lose_9 : decode cX9_lose 9 = .ok (.istore_n 1, 1) := by decide +kernel
theorem dX9_lose_10 : decode cX9_lose 10 = .ok (.aload_n 0, 1) := by decide +kernel
theorem dX9_lose_11 : decode cX9_lose 11 = .ok (.getfield 26, 3) := by decide +kernel
theorem dX9_lose_14 : decode cX9_lose 14 = .ok (.iload_n 1, 1) := by decide +kernel
theorem dX9_lose_15 : decode cX9_lose 15 = .ok (.invokevirtual 154, 3) := by decide +kernel
theorem dX9_lose_18 : decode cX9_lose 18 = .ok (.ifCond .eq 14, 3) := by decide +kernel
theorem dX9_lose_21 : decode cX9_lose 21 = .ok (.aload_n 0, 1) := by decide +kernel
theorem dX9_lose_22 : decode cX9_lose 22 = .ok (.getfield 26, 3) := by decide +kernel
theorem dX9_lose_25 : decode cX9_lose 25 = .ok (.iload_n 1, 1) := by decide +kernel
theorem dX9_lose_26 : decode cX9_lose 26 = .ok (.invokevirtual 160, 3) := by decide +kernel
theorem dX9_lose_29 : decode cX9_lose 29 = .ok (.ifCond .eq 6, 3) := by decide +kernel
theorem dX9_lose_32 : decode cX9_lose 32 = .ok (.bipush (-3), 2) := by decide +kernel
theorem dX9_lose_34 : decode cX9_lose 34 = .ok (.ireturn, 1) := by decide +kernel
theorem dX9_lose_35 : decode cX9_lose 35 = .ok (.aload_n 0, 1) := by decide +kernel
theorem dX9_lose_36 : decode cX9_lose 36 = .ok (.getfield 33, 3) := by decide +kernel
theorem dX9_lose_39 : decode cX9_lose 39 = .ok (.aload_n 0, 1) := by decide +kernel
theorem dX9_lose_40 : decode cX9_lose 40 = .ok (.getfield 26, 3) := by decide +kernel
theorem dX9_lose_43 : decode cX9_lose 43 = .ok (.invokevirtual 166, 3) := by decide +kernel
theorem dX9_lose_46 : decode cX9_lose 46 = .ok (.aload_n 0, 1) := by decide +kernel
theorem dX9_lose_47 : decode cX9_lose 47 = .ok (.getfield 26, 3) := by decide +kernel
theorem dX9_lose_50 : decode cX9_lose 50 = .ok (.iload_n 1, 1) := by decide +kernel
theorem dX9_lose_51 : decode cX9_lose 51 = .ok (.invokevirtual 178, 3) := by decide +kernel
theorem dX9_lose_54 : decode cX9_lose 54 = .ok (.aload_n 0, 1) := by decide +kernel
theorem dX9_lose_55 : decode cX9_lose 55 = .ok (.getfield 26, 3) := by decide +kernel
theorem dX9_lose_58 : decode cX9_lose 58 = .ok (.getfield 116, 3) := by decide +kernel
theorem dX9_lose_61 : decode cX9_lose 61 = .ok (.ireturn, 1) := by decide +kernel
set_option maxRecDepth 20000 in
theorem ggX9_find_X3_has : GoodIn wsX9_find wsX3_has := goodIn_r _ [8, 9, 71, 72, 73, 74, 75, 76, 77, 78, 79, 80] (by decide +kernel) (by decide +kernel)
set_option maxRecDepth 20000 in
theorem gX9_find_X3_has : GoodIn wsX9_find (wsV RX9 142 RX3 yX3_has wsX3_has) := goodIn_app (goodIn_of _ (by decide +kernel)) ggX9_find_X3_has
set_option maxRecDepth 20000 in
theorem ggX9_find_X8_isLost : GoodIn wsX9_find wsX8_isLost := goodIn_r _ [14, 15, 16, 17, 18, 13, 19, 20, 62, 63, 64, 65, 66, 67, 68, 69, 70] (by decide +kernel) (by decide +kernel)
set_option maxRecDepth 20000 in
theorem gX9_find_X8_isLost : GoodIn wsX9_find (wsV RX9 160 RX8 yX8_isLost wsX8_isLost) := goodIn_app (goodIn_of _ (by decide +kernel)) ggX9_find_X8_isLost
set_option maxRecDepth 20000 in
theorem ggX9_find_X0_remember : GoodIn wsX9_find wsX0_remember := goodIn_r _ [25, 26, 27, 28, 29, 30, 31, 24, 32, 33, 34, 35, 13, 36, 37, 38, 39, 20, 15, 40, 41, 42, 43, 44, 45, 46, 47, 81, 82, 83, 62, 63, 64, 65, 66, 67, 68, 69, 70] (by decide +kernel) (by decide +kernel)
set_option maxRecDepth 20000 in
theorem gX9_find_X0_remember : GoodIn wsX9_find (wsV RX9 166 RX0 yX0_remember wsX0_remember) := goodIn_app (goodIn_of _ (by decide +kernel)) ggX9_find_X0_remember
set_option maxRecDepth 20000 in
theorem ggX9_find_X8_bringBack : GoodIn wsX9_find wsX8_bringBack := goodIn_r _ [51, 15, 38, 62, 63, 64, 65, 66, 67, 68, 69, 70] (by decide +kernel) (by decide +kernel)
set_option maxRecDepth 20000 in
theorem gX9_find_X8_bringBack : GoodIn wsX9_find (wsV RX9 181 RX8 yX8_bringBack wsX8_bringBack) := goodIn_app (goodIn_of _ (by decide +kernel)) ggX9_find_X8_bringBack
theorem dX9_find_0 : decode cX9_find 0 = .ok (.aload_n 0, 1) := by decide +kernel
theorem dX9_find_1 : decode cX9_find 1 = .ok (.getfield 19, 3) := by decide +kernel
theorem dX9_find_4 : decode cX9_find 4 = .ok (.iload_n 1, 1) := by decide +kernel
theorem dX9_find_5 : decode cX9_find 5 = .ok (.invokevirtual 142, 3) := by decide +kernel
theorem dX9_find_8 : decode cX9_find 8 = .ok (.ifCond .ne 5, 3) := by decide +kernel
theorem dX9_find_11 : decode cX9_find 11 = .ok (.iconst (-1), 1) := by decide +kernel
theorem dX9_find_12 : decode cX9_find 12 = .ok (.ireturn, 1) := by decide +kernel
theorem dX9_find_13 : decode cX9_find 13 = .ok (.aload_n 0, 1) := by decide +kernel
theorem dX9_find_14 : decode cX9_find 14 = .ok (.getfield 26, 3) := by decide +kernel
theorem dX9_find_17 : decode cX9_find 17 = .ok (.iload_n 1, 1) := by decide +kernel
theorem dX9_find_18 : decode cX9_find 18 = .ok (.invokevirtual 160, 3) := by decide +kernel
theorem dX9_find_21 : decode cX9_find 21 = .ok (.ifCond .ne 6, 3) := by decide +kernel
theorem dX9_find_24 : decode cX9_find 24 = .ok (.bipush (-3), 2) := by decide +kernel
theorem dX9_find_26 : decode cX9_find 26 = .ok (.ireturn, 1) := by decide +kernel
theorem dX9_find_27 : decode cX9_find 27 = .ok (.aload_n 0, 1) := by decide +kernel
theorem dX9_find_28 : decode cX9_find 28 = .ok (.getfield 33, 3) := by decide +kernel
theorem dX9_find_31 : decode cX9_find 31 = .ok (.aload_n 0, 1) := by decide +kernel
theorem dX9_find_32 : decode cX9_find 32 = .ok (.getfield 26, 3) := by decide +kernel
theorem dX9_find_35 : decode cX9_find 35 = .ok (.invokevirtual 166, 3) := by decide +kernel
theorem dX9_find_38 : decode cX9_find 38 = .ok (.aload_n 0, 1) := by decide +kernel
theorem dX9_find_39 : decode cX9_find 39 = .ok (.getfield 26, 3) := by decide +kernel
theorem dX9_find_42 : decode cX9_find 42 = .ok (.iload_n 1, 1) := by decide +kernel
theorem dX9_find_43 : decode cX9_find 43 = .ok (.invokevirtual 181, 3) := by decide +kernel
theorem dX9_find_46 : decode cX9_find 46 = .ok (.aload_n 0, 1) := by decide +kernel
theorem dX9_find_47 : decode cX9_find 47 = .ok (.getfield 26, 3) := by decide +kernel
theorem dX9_find_50 : decode cX9_find 50 = .ok (.getfield 116, 3) := by decide +kernel
theorem dX9_find_53 : decode cX9_find 53 = .ok (.ireturn, 1) := by decide +kernel
set_option maxRecDepth 20000 in
theorem ggX9_doubled_X0_remember : GoodIn wsX9_doubled wsX0_remember := goodIn_r _ [7, 8, 9, 10, 11, 12, 13, 6, 14, 15, 16, 17, 18, 19, 20, 21, 22, 23, 24, 25, 26, 27, 28, 29, 30, 31, 32, 52, 53, 54, 43, 44, 45, 46, 47, 48, 49, 50, 51] (by decide +kernel) (by decide +kernel)
set_option maxRecDepth 20000 in
theorem gX9_doubled_X0_remember : GoodIn wsX9_doubled (wsV RX9 166 RX0 yX0_remember wsX0_remember) := goodIn_app (goodIn_of _ (by decide +kernel)) ggX9_doubled_X0_remember
theorem dX9_doubled_0 : decode cX9_doubled 0 = .ok (.aload_n 0, 1) := by decide +kernel
theorem dX9_doubled_1 : decode cX9_doubled 1 = .ok (.getfield 33, 3) := by decide +kernel
theorem dX9_doubled_4 : decode cX9_doubled 4 = .ok (.aload_n 0, 1) := by decide +kernel
theorem dX9_doubled_5 : decode cX9_doubled 5 = .ok (.getfield 26, 3) := by decide +kernel
theorem dX9_doubled_8 : decode cX9_doubled 8 = .ok (.invokevirtual 166, 3) := by decide +kernel
theorem dX9_doubled_11 : decode cX9_doubled 11 = .ok (.aload_n 0, 1) := by decide +kernel
theorem dX9_doubled_12 : decode cX9_doubled 12 = .ok (.getfield 26, 3) := by decide +kernel
theorem dX9_doubled_15 : decode cX9_doubled 15 = .ok (.dup, 1) := by decide +kernel
theorem dX9_doubled_16 : decode cX9_doubled 16 = .ok (.getfield 119, 3) := by decide +kernel
theorem dX9_doubled_19 : decode cX9_doubled 19 = .ok (.iconst 1, 1) := by decide +kernel
theorem dX9_doubled_20 : decode cX9_doubled 20 = .ok (.iadd, 1) := by decide +kernel
theorem dX9_doubled_21 : decode cX9_doubled 21 = .ok (.putfield 119, 3) := by decide +kernel
theorem dX9_doubled_24 : decode cX9_doubled 24 = .ok (.aload_n 0, 1) := by decide +kernel
theorem dX9_doubled_25 : decode cX9_doubled 25 = .ok (.getfield 26, 3) := by decide +kernel
theorem dX9_doubled_28 : decode cX9_doubled 28 = .ok (.getfield 119, 3) := by decide +kernel
theorem dX9_doubled_31 : decode cX9_doubled 31 = .ok (.ireturn, 1) := by decide +kernel
set_option maxRecDepth 20000 in
theorem ggX9_change_X0_remember : GoodIn wsX9_change wsX0_remember := goodIn_r _ [7, 8, 9, 10, 11, 12, 13, 6, 14, 15, 16, 17, 18, 19, 20, 21, 22, 23, 24, 25, 26, 27, 28, 29, 30, 31, 32, 52, 53, 54, 43, 44, 45, 46, 47, 48, 49, 50, 51] (by decide +kernel) (by decide +kernel)
set_option maxRecDepth 20000 in
theorem gX9_change_X0_remember : GoodIn wsX9_change (wsV RX9 166 RX0 yX0_remember wsX0_remember) := goodIn_app (goodIn_of _ (by decide +kernel)) ggX9_change_X0_remember
theorem dX9_change_0 : decode cX9_change 0 = .ok (.aload_n 0, 1) := by decide +kernel
theorem dX9_change_1 : decode cX9_change 1 = .ok (.getfield 33, 3) := by decide +kernel
theorem dX9_change_4 : decode cX9_change 4 = .ok (.aload_n 0, 1) := by decide +kernel
theorem dX9_change_5 : decode cX9_change 5 = .ok (.getfield 26, 3) := by decide +kernel
theorem dX9_change_8 : decode cX9_change 8 = .ok (.invokevirtual 166, 3) := by decide +kernel
theorem dX9_change_11 : decode cX9_change 11 = .ok (.aload_n 0, 1) := by decide +kernel
theorem dX9_change_12 : decode cX9_change 12 = .ok (.getfield 26, 3) := by decide +kernel
theorem dX9_change_15 : decode cX9_change 15 = .ok (.iconst 1, 1) := by decide +kernel
theorem dX9_change_16 : decode cX9_change 16 = .ok (.aload_n 0, 1) := by decide +kernel
theorem dX9_change_17 : decode cX9_change 17 = .ok (.getfield 26, 3) := by decide +kernel
theorem dX9_change_20 : decode cX9_change 20 = .ok (.getfield 125, 3) := by decide +kernel
theorem dX9_change_23 : decode cX9_change 23 = .ok (.isub, 1) := by decide +kernel
theorem dX9_change_24 : decode cX9_change 24 = .ok (.putfield 125, 3) := by decide +kernel
theorem dX9_change_27 : decode cX9_change 27 = .ok (.aload_n 0, 1) := by decide +kernel
theorem dX9_change_28 : decode cX9_change 28 = .ok (.getfield 26, 3) := by decide +kernel
theorem dX9_change_31 : decode cX9_change 31 = .ok (.getfield 125, 3) := by decide +kernel
theorem dX9_change_34 : decode cX9_change 34 = .ok (.ireturn, 1) := by decide +kernel
set_option maxRecDepth 20000 in
theorem ggX9_stretch_X0_remember : GoodIn wsX9_stretch wsX0_remember := goodIn_r _ [11, 12, 13, 14, 15, 16, 17, 10, 18, 19, 20, 21, 22, 23, 24, 25, 26, 27, 28, 29, 30, 31, 32, 33, 34, 35, 36, 56, 57, 58, 47, 48, 49, 50, 51, 52, 53, 54, 55] (by decide +kernel) (by decide +kernel)
set_option maxRecDepth 20000 in
theorem gX9_stretch_X0_remember : GoodIn wsX9_stretch (wsV RX9 166 RX0 yX0_remember wsX0_remember) := goodIn_app (goodIn_of _ (by decide +kernel)) ggX9_stretch_X0_remember
theorem dX9_stretch_0 : decode cX9_stretch 0 = .ok (.iload_n 1, 1) := by decide +kernel
theorem dX9_stretch_1 : decode cX9_stretch 1 = .ok (.bipush (-3), 2) := by decide +kernel
theorem dX9_stretch_3 : decode cX9_stretch 3 = .ok (.if_icmp .lt 12, 3) := by decide +kernel
theorem dX9_stretch_6 : decode cX9_stretch 6 = .ok (.iload_n 1, 1) := by decide +kernel
theorem dX9_stretch_7 : decode cX9_stretch 7 = .ok (.iconst 3, 1) := by decide +kernel
theorem dX9_stretch_8 : decode cX9_stretch 8 = .ok (.if_icmp .gt 7, 3) := by decide +kernel
theorem dX9_stretch_11 : decode cX9_stretch 11 = .ok (.iload_n 1, 1) := by decide +kernel
theorem dX9_stretch_12 : decode cX9_stretch 12 = .ok (.ifCond .ne 6, 3) := by decide +kernel
theorem dX9_stretch_15 : decode cX9_stretch 15 = .ok (.bipush (-2), 2) := by decide +kernel
theorem dX9_stretch_17 : decode cX9_stretch 17 = .ok (.ireturn, 1) := by decide +kernel
theorem dX9_stretch_18 : decode cX9_stretch 18 = .ok (.aload_n 0, 1) := by decide +kernel
theorem dX9_stretch_19 : decode cX9_stretch 19 = .ok (.getfield 26, 3) := by decide +kernel
theorem dX9_stretch_22 : decode cX9_stretch 22 = .ok (.getfield 128, 3) := by decide +kernel
theorem dX9_stretch_25 : decode cX9_stretch 25 = .ok (.iload_n 1, 1) := by decide +kernel
theorem dX9_stretch_26 : decode cX9_stretch 26 = .ok (.iadd, 1) := by decide +kernel
theorem dX9_stretch_27 : decode cX9_stretch 27 = .ok (.invokestatic 184, 3) := by decide +kernel
theorem dX9_stretch_30 : decode cX9_stretch 30 = .ok (.bipush 9, 2) := by decide +kernel
theorem dX9_stretch_32 : decode cX9_stretch 32 = .ok (.if_icmp .le 6, 3) := by decide +kernel
theorem dX9_stretch_35 : decode cX9_stretch 35 = .ok (.bipush (-3), 2) := by decide +kernel
theorem dX9_stretch_37 : decode cX9_stretch 37 = .ok (.ireturn, 1) := by decide +kernel
theorem dX9_stretch_38 : decode cX9_stretch 38 = .ok (.aload_n 0, 1) := by decide +kernel
theorem dX9_stretch_39 : decode cX9_stretch 39 = .ok (.getfield 33, 3) := by decide +kernel
theorem dX9_stretch_42 : decode cX9_stretch 42 = .ok (.aload_n 0, 1) := by decide +kernel
theorem dX9_stretch_43 : decode cX9_stretch 43 = .ok (.getfield 26, 3) := by decide +kernel
theorem dX9_stretch_46 : decode cX9_stretch 46 = .ok (.invokevirtual 166, 3) := by decide +kernel
theorem dX9_stretch_49 : decode cX9_stretch 49 = .ok (.aload_n 0, 1) := by decide +kernel
theorem dX9_stretch_50 : decode cX9_stretch 50 = .ok (.getfield 26, 3) := by decide +kernel
theorem dX9_stretch_53 : decode cX9_stretch 53 = .ok (.dup, 1) := by decide +kernel
theorem dX9_stretch_54 : decode cX9_stretch 54 = .ok (.getfield 128, 3) := by decide +kernel
theorem dX9_stretch_57 : decode cX9_stretch 57 = .ok (.iload_n 1, 1) := by decide +kernel
theorem dX9_stretch_58 : decode cX9_stretch 58 = .ok (.iadd, 1) := by decide +kernel
theorem dX9_stretch_59 : decode cX9_stretch 59 = .ok (.putfield 128, 3) := by decide +kernel
theorem dX9_stretch_62 : decode cX9_stretch 62 = .ok (.aload_n 0, 1) := by decide +kernel
theorem dX9_stretch_63 : decode cX9_stretch 63 = .ok (.getfield 26, 3) := by decide +kernel
theorem dX9_stretch_66 : decode cX9_stretch 66 = .ok (.getfield 128, 3) := by decide +kernel
theorem dX9_stretch_69 : decode cX9_stretch 69 = .ok (.bipush 50, 2) := by decide +kernel
theorem dX9_stretch_71 : decode cX9_stretch 71 = .ok (.iadd, 1) := by decide +kernel
theorem dX9_stretch_72 : decode cX9_stretch 72 = .ok (.ireturn, 1) := by decide +kernel
set_option maxRecDepth 20000 in
theorem ggX9_knot_X0_remember : GoodIn wsX9_knot wsX0_remember := goodIn_r _ [7, 8, 9, 10, 11, 12, 13, 6, 14, 15, 16, 17, 18, 19, 20, 21, 22, 23, 24, 25, 26, 27, 28, 29, 30, 31, 32, 52, 53, 54, 43, 44, 45, 46, 47, 48, 49, 50, 51] (by decide +kernel) (by decide +kernel)
set_option maxRecDepth 20000 in
theorem gX9_knot_X0_remember : GoodIn wsX9_knot (wsV RX9 166 RX0 yX0_remember wsX0_remember) := goodIn_app (goodIn_of _ (by decide +kernel)) ggX9_knot_X0_remember
theorem dX9_knot_0 : decode cX9_knot 0 = .ok (.aload_n 0, 1) := by decide +kernel
theorem dX9_knot_1 : decode cX9_knot 1 = .ok (.getfield 26, 3) := by decide +kernel
theorem dX9_knot_4 : decode cX9_knot 4 = .ok (.getfield 131, 3) := by decide +kernel
theorem dX9_knot_7 : decode cX9_knot 7 = .ok (.bipush 9, 2) := by decide +kernel
theorem dX9_knot_9 : decode cX9_knot 9 = .ok (.if_icmp .lt 6, 3) := by decide +kernel
theorem dX9_knot_12 : decode cX9_knot 12 = .ok (.bipush (-4), 2) := by decide +kernel
theorem dX9_knot_14 : decode cX9_knot 14 = .ok (.ireturn, 1) := by decide +kernel
theorem dX9_knot_15 : decode cX9_knot 15 = .ok (.aload_n 0, 1) := by decide +kernel
theorem dX9_knot_16 : decode cX9_knot 16 = .ok (.getfield 33, 3) := by decide +kernel
theorem dX9_knot_19 : decode cX9_knot 19 = .ok (.aload_n 0, 1) := by decide +kernel
theorem dX9_knot_20 : decode cX9_knot 20 = .ok (.getfield 26, 3) := by decide +kernel
theorem dX9_knot_23 : decode cX9_knot 23 = .ok (.invokevirtual 166, 3) := by decide +kernel
theorem dX9_knot_26 : decode cX9_knot 26 = .ok (.aload_n 0, 1) := by decide +kernel
theorem dX9_knot_27 : decode cX9_knot 27 = .ok (.getfield 26, 3) := by decide +kernel
theorem dX9_knot_30 : decode cX9_knot 30 = .ok (.dup, 1) := by decide +kernel
theorem dX9_knot_31 : decode cX9_knot 31 = .ok (.getfield 131, 3) := by decide +kernel
theorem dX9_knot_34 : decode cX9_knot 34 = .ok (.iconst 1, 1) := by decide +kernel
theorem dX9_knot_35 : decode cX9_knot 35 = .ok (.iadd, 1) := by decide +kernel
theorem dX9_knot_36 : decode cX9_knot 36 = .ok (.putfield 131, 3) := by decide +kernel
theorem dX9_knot_39 : decode cX9_knot 39 = .ok (.aload_n 0, 1) := by decide +kernel
theorem dX9_knot_40 : decode cX9_knot 40 = .ok (.getfield 26, 3) := by decide +kernel
theorem dX9_knot_43 : decode cX9_knot 43 = .ok (.getfield 131, 3) := by decide +kernel
theorem dX9_knot_46 : decode cX9_knot 46 = .ok (.ireturn, 1) := by decide +kernel
set_option maxRecDepth 20000 in
theorem ggX9_clear_X0_remember : GoodIn wsX9_clear wsX0_remember := goodIn_r _ [7, 8, 9, 10, 11, 12, 13, 6, 14, 15, 16, 17, 18, 19, 20, 21, 22, 23, 24, 25, 26, 27, 28, 29, 30, 31, 32, 52, 53, 54, 43, 44, 45, 46, 47, 48, 49, 50, 51] (by decide +kernel) (by decide +kernel)
set_option maxRecDepth 20000 in
theorem gX9_clear_X0_remember : GoodIn wsX9_clear (wsV RX9 166 RX0 yX0_remember wsX0_remember) := goodIn_app (goodIn_of _ (by decide +kernel)) ggX9_clear_X0_remember
theorem dX9_clear_0 : decode cX9_clear 0 = .ok (.aload_n 0, 1) := by decide +kernel
theorem dX9_clear_1 : decode cX9_clear 1 = .ok (.getfield 26, 3) := by decide +kernel
theorem dX9_clear_4 : decode cX9_clear 4 = .ok (.getfield 131, 3) := by decide +kernel
theorem dX9_clear_7 : decode cX9_clear 7 = .ok (.istore_n 1, 1) := by decide +kernel
theorem dX9_clear_8 : decode cX9_clear 8 = .ok (.iload_n 1, 1) := by decide +kernel
theorem dX9_clear_9 : decode cX9_clear 9 = .ok (.ifCond .ne 6, 3) := by decide +kernel
theorem dX9_clear_12 : decode cX9_clear 12 = .ok (.bipush (-3), 2) := by decide +kernel
theorem dX9_clear_14 : decode cX9_clear 14 = .ok (.ireturn, 1) := by decide +kernel
theorem dX9_clear_15 : decode cX9_clear 15 = .ok (.aload_n 0, 1) := by decide +kernel
theorem dX9_clear_16 : decode cX9_clear 16 = .ok (.getfield 33, 3) := by decide +kernel
theorem dX9_clear_19 : decode cX9_clear 19 = .ok (.aload_n 0, 1) := by decide +kernel
theorem dX9_clear_20 : decode cX9_clear 20 = .ok (.getfield 26, 3) := by decide +kernel
theorem dX9_clear_23 : decode cX9_clear 23 = .ok (.invokevirtual 166, 3) := by decide +kernel
theorem dX9_clear_26 : decode cX9_clear 26 = .ok (.aload_n 0, 1) := by decide +kernel
theorem dX9_clear_27 : decode cX9_clear 27 = .ok (.getfield 26, 3) := by decide +kernel
theorem dX9_clear_30 : decode cX9_clear 30 = .ok (.iconst 0, 1) := by decide +kernel
theorem dX9_clear_31 : decode cX9_clear 31 = .ok (.putfield 131, 3) := by decide +kernel
theorem dX9_clear_34 : decode cX9_clear 34 = .ok (.iload_n 1, 1) := by decide +kernel
theorem dX9_clear_35 : decode cX9_clear 35 = .ok (.ireturn, 1) := by decide +kernel
set_option maxRecDepth 20000 in
theorem ggX9_undo_X0_takeBack : GoodIn wsX9_undo wsX0_takeBack := goodIn_r _ [7, 8, 9, 10, 11, 12, 6, 13, 14, 15, 16, 17, 18, 19, 20, 21, 22, 23, 24, 25, 26, 27, 28, 29, 30, 31, 32, 43, 44, 45, 46, 47, 48, 49, 50, 51, 52, 53, 54] (by decide +kernel) (by decide +kernel)
set_option maxRecDepth 20000 in
theorem gX9_undo_X0_takeBack : GoodIn wsX9_undo (wsV RX9 189 RX0 yX0_takeBack wsX0_takeBack) := goodIn_app (goodIn_of _ (by decide +kernel)) ggX9_undo_X0_takeBack
theorem dX9_undo_0 : decode cX9_undo 0 = .ok (.aload_n 0, 1) := by decide +kernel
theorem dX9_undo_1 : decode cX9_undo 1 = .ok (.getfield 33, 3) := by decide +kernel
theorem dX9_undo_4 : decode cX9_undo 4 = .ok (.getfield 134, 3) := by decide +kernel
theorem dX9_undo_7 : decode cX9_undo 7 = .ok (.ifCond .ne 6, 3) := by decide +kernel
theorem dX9_undo_10 : decode cX9_undo 10 = .ok (.bipush (-3), 2) := by decide +kernel
theorem dX9_undo_12 : decode cX9_undo 12 = .ok (.ireturn, 1) := by decide +kernel
theorem dX9_undo_13 : decode cX9_undo 13 = .ok (.aload_n 0, 1) := by decide +kernel
theorem dX9_undo_14 : decode cX9_undo 14 = .ok (.getfield 33, 3) := by decide +kernel
theorem dX9_undo_17 : decode cX9_undo 17 = .ok (.aload_n 0, 1) := by decide +kernel
theorem dX9_undo_18 : decode cX9_undo 18 = .ok (.getfield 26, 3) := by decide +kernel
theorem dX9_undo_21 : decode cX9_undo 21 = .ok (.invokevirtual 189, 3) := by decide +kernel
theorem dX9_undo_24 : decode cX9_undo 24 = .ok (.aload_n 0, 1) := by decide +kernel
theorem dX9_undo_25 : decode cX9_undo 25 = .ok (.getfield 33, 3) := by decide +kernel
theorem dX9_undo_28 : decode cX9_undo 28 = .ok (.getfield 134, 3) := by decide +kernel
theorem dX9_undo_31 : decode cX9_undo 31 = .ok (.ireturn, 1) := by decide +kernel
set_option maxRecDepth 20000 in
theorem ggX9_off_X1_reaches : GoodIn wsX9_off wsX1_reaches := goodIn_r _ [6, 7, 8, 48, 49, 50, 51, 52, 53, 54, 55, 56, 57, 58, 59, 60, 61, 62, 63, 64, 65, 66, 67, 68, 69] (by decide +kernel) (by decide +kernel)
set_option maxRecDepth 20000 in
theorem gX9_off_X1_reaches : GoodIn wsX9_off (wsV RX9 192 RX1 yX1_reaches wsX1_reaches) := goodIn_app (goodIn_of _ (by decide +kernel)) ggX9_off_X1_reaches
set_option maxRecDepth 20000 in
theorem ggX9_off_X1_offBy : GoodIn wsX9_off wsX1_offBy := goodIn_r _ [12, 8, 13, 14, 15, 5, 16, 17, 18, 19, 20, 7, 21, 22, 23, 24, 25, 26, 27, 28, 29, 30, 31, 32, 33, 34, 35, 36, 37, 48, 49, 50, 61, 62, 63, 64, 65, 66, 67, 68, 69, 51, 52, 53, 54, 55, 56, 57, 58, 59, 60] (by decide +kernel) (by decide +kernel)
set_option maxRecDepth 20000 in
theorem gX9_off_X1_offBy : GoodIn wsX9_off (wsV RX9 195 RX1 yX1_offBy wsX1_offBy) := goodIn_app (goodIn_of _ (by decide +kernel)) ggX9_off_X1_offBy
theorem dX9_off_0 : decode cX9_off 0 = .ok (.aload_n 0, 1) := by decide +kernel
theorem dX9_off_1 : decode cX9_off 1 = .ok (.getfield 56, 3) := by decide +kernel
theorem dX9_off_4 : decode cX9_off 4 = .ok (.iload_n 1, 1) := by decide +kernel
theorem dX9_off_5 : decode cX9_off 5 = .ok (.invokevirtual 192, 3) := by decide +kernel
theorem dX9_off_8 : decode cX9_off 8 = .ok (.ifCond .eq 14, 3) := by decide +kernel
theorem dX9_off_11 : decode cX9_off 11 = .ok (.iload_n 2, 1) := by decide +kernel
theorem dX9_off_12 : decode cX9_off 12 = .ok (.ifCond .lt 10, 3) := by decide +kernel
theorem dX9_off_15 : decode cX9_off 15 = .ok (.iload_n 2, 1) := by decide +kernel
theorem dX9_off_16 : decode cX9_off 16 = .ok (.sipush 255, 3) := by decide +kernel
theorem dX9_off_19 : decode cX9_off 19 = .ok (.if_icmp .le 6, 3) := by decide +kernel
theorem dX9_off_22 : decode cX9_off 22 = .ok (.bipush (-2), 2) := by decide +kernel
theorem dX9_off_24 : decode cX9_off 24 = .ok (.ireturn, 1) := by decide +kernel
theorem dX9_off_25 : decode cX9_off 25 = .ok (.aload_n 0, 1) := by decide +kernel
theorem dX9_off_26 : decode cX9_off 26 = .ok (.getfield 56, 3) := by decide +kernel
theorem dX9_off_29 : decode cX9_off 29 = .ok (.iload_n 1, 1) := by decide +kernel
theorem dX9_off_30 : decode cX9_off 30 = .ok (.iload_n 2, 1) := by decide +kernel
theorem dX9_off_31 : decode cX9_off 31 = .ok (.invokevirtual 195, 3) := by decide +kernel
theorem dX9_off_34 : decode cX9_off 34 = .ok (.sipush 20000, 3) := by decide +kernel
theorem dX9_off_37 : decode cX9_off 37 = .ok (.iadd, 1) := by decide +kernel
theorem dX9_off_38 : decode cX9_off 38 = .ok (.ireturn, 1) := by decide +kernel
set_option maxRecDepth 20000 in
theorem ggX9_ends_X1_reaches : GoodIn wsX9_ends wsX1_reaches := goodIn_r _ [6, 7, 8, 68, 69, 70, 71, 72, 73, 74, 75, 76, 77, 78, 79, 80, 81, 82, 83, 84, 85, 86, 87, 88, 89] (by decide +kernel) (by decide +kernel)
set_option maxRecDepth 20000 in
theorem gX9_ends_X1_reaches : GoodIn wsX9_ends (wsV RX9 192 RX1 yX1_reaches wsX1_reaches) := goodIn_app (goodIn_of _ (by decide +kernel)) ggX9_ends_X1_reaches
set_option maxRecDepth 20000 in
theorem ggX9_ends_X1_bestPlan : GoodIn wsX9_ends wsX1_bestPlan := goodIn_r _ [12, 7, 13, 14, 15, 16, 8, 17, 18, 19, 5, 20, 21, 22, 23, 24, 25, 26, 27, 28, 29, 30, 31, 32, 33, 34, 35, 36, 37, 38, 39, 40, 41, 42, 43, 44, 45, 46, 47, 48, 49, 50, 51, 52, 53, 54, 55, 56, 68, 69, 70, 81, 82, 83, 84, 85, 86, 87, 88, 89, 71, 72, 73, 74, 75, 76, 77, 78, 79, 80] (by decide +kernel) (by decide +kernel)
set_option maxRecDepth 20000 in
theorem gX9_ends_X1_bestPlan : GoodIn wsX9_ends (wsV RX9 198 RX1 yX1_bestPlan wsX1_bestPlan) := goodIn_app (goodIn_of _ (by decide +kernel)) ggX9_ends_X1_bestPlan
set_option maxRecDepth 20000 in
theorem ggX9_ends_X1_offBy : GoodIn wsX9_ends wsX1_offBy := goodIn_r _ [20, 8, 21, 22, 23, 5, 24, 25, 26, 27, 28, 7, 29, 30, 31, 32, 33, 34, 35, 36, 37, 38, 39, 40, 41, 42, 43, 44, 45, 68, 69, 70, 81, 82, 83, 84, 85, 86, 87, 88, 89, 71, 72, 73, 74, 75, 76, 77, 78, 79, 80] (by decide +kernel) (by decide +kernel)
set_option maxRecDepth 20000 in
theorem gX9_ends_X1_offBy : GoodIn wsX9_ends (wsV RX9 195 RX1 yX1_offBy wsX1_offBy) := goodIn_app (goodIn_of _ (by decide +kernel)) ggX9_ends_X1_offBy
theorem dX9_ends_0 : decode cX9_ends 0 = .ok (.aload_n 0, 1) := by decide +kernel
theorem dX9_ends_1 : decode cX9_ends 1 = .ok (.getfield 56, 3) := by decide +kernel
theorem dX9_ends_4 : decode cX9_ends 4 = .ok (.iload_n 1, 1) := by decide +kernel
theorem dX9_ends_5 : decode cX9_ends 5 = .ok (.invokevirtual 192, 3) := by decide +kernel
theorem dX9_ends_8 : decode cX9_ends 8 = .ok (.ifCond .eq 12, 3) := by decide +kernel
theorem dX9_ends_11 : decode cX9_ends 11 = .ok (.iload_n 2, 1) := by decide +kernel
theorem dX9_ends_12 : decode cX9_ends 12 = .ok (.ifCond .lt 8, 3) := by decide +kernel
theorem dX9_ends_15 : decode cX9_ends 15 = .ok (.iload_n 2, 1) := by decide +kernel
theorem dX9_ends_16 : decode cX9_ends 16 = .ok (.iconst 1, 1) := by decide +kernel
theorem dX9_ends_17 : decode cX9_ends 17 = .ok (.if_icmp .le 6, 3) := by decide +kernel
theorem dX9_ends_20 : decode cX9_ends 20 = .ok (.bipush (-2), 2) := by decide +kernel
theorem dX9_ends_22 : decode cX9_ends 22 = .ok (.ireturn, 1) := by decide +kernel
theorem dX9_ends_23 : decode cX9_ends 23 = .ok (.aload_n 0, 1) := by decide +kernel
theorem dX9_ends_24 : decode cX9_ends 24 = .ok (.getfield 56, 3) := by decide +kernel
theorem dX9_ends_27 : decode cX9_ends 27 = .ok (.iload_n 1, 1) := by decide +kernel
theorem dX9_ends_28 : decode cX9_ends 28 = .ok (.invokevirtual 198, 3) := by decide +kernel
theorem dX9_ends_31 : decode cX9_ends 31 = .ok (.istore_n 3, 1) := by decide +kernel
theorem dX9_ends_32 : decode cX9_ends 32 = .ok (.iload_n 2, 1) := by decide +kernel
theorem dX9_ends_33 : decode cX9_ends 33 = .ok (.ifCond .ne 7, 3) := by decide +kernel
theorem dX9_ends_36 : decode cX9_ends 36 = .ok (.iload_n 3, 1) := by decide +kernel
theorem dX9_ends_37 : decode cX9_ends 37 = .ok (.goto 16, 3) := by decide +kernel
theorem dX9_ends_40 : decode cX9_ends 40 = .ok (.aload_n 0, 1) := by decide +kernel
theorem dX9_ends_41 : decode cX9_ends 41 = .ok (.getfield 56, 3) := by decide +kernel
theorem dX9_ends_44 : decode cX9_ends 44 = .ok (.iload_n 1, 1) := by decide +kernel
theorem dX9_ends_45 : decode cX9_ends 45 = .ok (.iload_n 3, 1) := by decide +kernel
theorem dX9_ends_46 : decode cX9_ends 46 = .ok (.invokevirtual 195, 3) := by decide +kernel
theorem dX9_ends_49 : decode cX9_ends 49 = .ok (.sipush 20000, 3) := by decide +kernel
theorem dX9_ends_52 : decode cX9_ends 52 = .ok (.iadd, 1) := by decide +kernel
theorem dX9_ends_53 : decode cX9_ends 53 = .ok (.ireturn, 1) := by decide +kernel
set_option maxRecDepth 20000 in
theorem ggX9_step_X1_fewestStepped : GoodIn wsX9_step wsX1_fewestStepped := goodIn_r _ [6, 7, 8, 9, 10, 11, 12, 13, 14, 15, 5, 16, 17, 18, 19, 20, 21, 22, 23, 24, 25, 26, 27, 28, 29, 30, 31, 32, 33, 34, 35, 36, 37, 38, 39, 40, 41, 42, 43, 44, 45, 46, 47, 48, 49, 50, 51, 52, 53, 54, 55, 56, 57, 58, 59, 60, 61, 62, 63, 64, 65, 66, 67, 68, 69, 70, 71, 72, 73, 84, 85, 86, 87, 88, 89, 90, 91, 92, 93, 94, 95, 96, 97, 98, 99, 100, 101, 102, 103, 104, 105] (by decide +kernel) (by decide +kernel)
set_option maxRecDepth 20000 in
theorem gX9_step_X1_fewestStepped : GoodIn wsX9_step (wsV RX9 201 RX1 yX1_fewestStepped wsX1_fewestStepped) := goodIn_app (goodIn_of _ (by decide +kernel)) ggX9_step_X1_fewestStepped
theorem dX9_step_0 : decode cX9_step 0 = .ok (.iload_n 1, 1) := by decide +kernel
theorem dX9_step_1 : decode cX9_step 1 = .ok (.ifCond .lt 9, 3) := by decide +kernel
theorem dX9_step_4 : decode cX9_step 4 = .ok (.iload_n 1, 1) := by decide +kernel
theorem dX9_step_5 : decode cX9_step 5 = .ok (.bipush 99, 2) := by decide +kernel
theorem dX9_step_7 : decode cX9_step 7 = .ok (.if_icmp .le 6, 3) := by decide +kernel
theorem dX9_step_10 : decode cX9_step 10 = .ok (.bipush (-2), 2) := by decide +kernel
theorem dX9_step_12 : decode cX9_step 12 = .ok (.ireturn, 1) := by decide +kernel
theorem dX9_step_13 : decode cX9_step 13 = .ok (.aload_n 0, 1) := by decide +kernel
theorem dX9_step_14 : decode cX9_step 14 = .ok (.getfield 56, 3) := by decide +kernel
theorem dX9_step_17 : decode cX9_step 17 = .ok (.iload_n 1, 1) := by decide +kernel
theorem dX9_step_18 : decode cX9_step 18 = .ok (.invokevirtual 201, 3) := by decide +kernel
theorem dX9_step_21 : decode cX9_step 21 = .ok (.ireturn, 1) := by decide +kernel
set_option maxRecDepth 20000 in
theorem ggX9_share_X1_reaches : GoodIn wsX9_share wsX1_reaches := goodIn_r _ [6, 7, 8, 74, 75, 76, 77, 78, 79, 80, 81, 82, 83, 84, 85, 86, 87, 88, 89, 90, 91, 92, 93, 94, 95] (by decide +kernel) (by decide +kernel)
set_option maxRecDepth 20000 in
theorem gX9_share_X1_reaches : GoodIn wsX9_share (wsV RX9 192 RX1 yX1_reaches wsX1_reaches) := goodIn_app (goodIn_of _ (by decide +kernel)) ggX9_share_X1_reaches
set_option maxRecDepth 20000 in
theorem ggX9_share_X1_shareIn24ths : GoodIn wsX9_share wsX1_shareIn24ths := goodIn_r _ [12, 13, 14, 15, 5, 16, 17, 18, 19, 20, 21, 22, 23, 24, 8, 7, 25, 26, 27, 28, 29, 30, 31, 32, 33, 34, 35, 36, 37, 38, 39, 40, 41, 42, 43, 44, 45, 46, 47, 48, 49, 50, 51, 52, 53, 54, 55, 74, 75, 76, 87, 88, 89, 90, 91, 92, 93, 94, 95, 77, 78, 79, 80, 81, 82, 83, 84, 85, 86] (by decide +kernel) (by decide +kernel)
set_option maxRecDepth 20000 in
theorem gX9_share_X1_shareIn24ths : GoodIn wsX9_share (wsV RX9 204 RX1 yX1_shareIn24ths wsX1_shareIn24ths) := goodIn_app (goodIn_of _ (by decide +kernel)) ggX9_share_X1_shareIn24ths
set_option maxRecDepth 20000 in
theorem ggX9_share_X9_fraction : GoodIn wsX9_share wsX9_fraction := goodIn_r _ [59, 60, 18, 19, 20, 61, 62, 58, 63] (by decide +kernel) (by decide +kernel)
set_option maxRecDepth 20000 in
theorem gX9_share_X9_fraction : GoodIn wsX9_share (va_wsS RX9 207 yX9_fraction wsX9_fraction) := goodIn_app (goodIn_of _ (by decide +kernel)) ggX9_share_X9_fraction
theorem dX9_share_0 : decode cX9_share 0 = .ok (.iload_n 1, 1) := by decide +kernel
theorem dX9_share_1 : decode cX9_share 1 = .ok (.ifCond .lt 8, 3) := by decide +kernel
theorem dX9_share_4 : decode cX9_share 4 = .ok (.iload_n 1, 1) := by decide +kernel
theorem dX9_share_5 : decode cX9_share 5 = .ok (.iconst 4, 1) := by decide +kernel
theorem dX9_share_6 : decode cX9_share 6 = .ok (.if_icmp .lt 5, 3) := by decide +kernel
theorem dX9_share_9 : decode cX9_share 9 = .ok (.iconst (-1), 1) := by decide +kernel
theorem dX9_share_10 : decode cX9_share 10 = .ok (.ireturn, 1) := by decide +kernel
theorem dX9_share_11 : decode cX9_share 11 = .ok (.aload_n 0, 1) := by decide +kernel
theorem dX9_share_12 : decode cX9_share 12 = .ok (.getfield 56, 3) := by decide +kernel
theorem dX9_share_15 : decode cX9_share 15 = .ok (.iload_n 2, 1) := by decide +kernel
theorem dX9_share_16 : decode cX9_share 16 = .ok (.invokevirtual 192, 3) := by decide +kernel
theorem dX9_share_19 : decode cX9_share 19 = .ok (.ifCond .ne 6, 3) := by decide +kernel
theorem dX9_share_22 : decode cX9_share 22 = .ok (.bipush (-2), 2) := by decide +kernel
theorem dX9_share_24 : decode cX9_share 24 = .ok (.ireturn, 1) := by decide +kernel
theorem dX9_share_25 : decode cX9_share 25 = .ok (.aload_n 0, 1) := by decide +kernel
theorem dX9_share_26 : decode cX9_share 26 = .ok (.getfield 56, 3) := by decide +kernel
theorem dX9_share_29 : decode cX9_share 29 = .ok (.iload_n 1, 1) := by decide +kernel
theorem dX9_share_30 : decode cX9_share 30 = .ok (.iload_n 2, 1) := by decide +kernel
theorem dX9_share_31 : decode cX9_share 31 = .ok (.invokevirtual 204, 3) := by decide +kernel
theorem dX9_share_34 : decode cX9_share 34 = .ok (.bipush 24, 2) := by decide +kernel
theorem dX9_share_36 : decode cX9_share 36 = .ok (.iload_n 3, 1) := by decide +kernel
theorem dX9_share_37 : decode cX9_share 37 = .ok (.invokestatic 207, 3) := by decide +kernel
theorem dX9_share_40 : decode cX9_share 40 = .ok (.ireturn, 1) := by decide +kernel
set_option maxRecDepth 20000 in
theorem ggX9_where_X8_isLaid : GoodIn wsX9_where wsX8_isLaid := goodIn_r _ [8, 9, 50, 51, 52, 53, 54, 55, 56, 57, 58] (by decide +kernel) (by decide +kernel)
set_option maxRecDepth 20000 in
theorem gX9_where_X8_isLaid : GoodIn wsX9_where (wsV RX9 154 RX8 yX8_isLaid wsX8_isLaid) := goodIn_app (goodIn_of _ (by decide +kernel)) ggX9_where_X8_isLaid
set_option maxRecDepth 20000 in
theorem ggX9_where_X2_gorseOfLast : GoodIn wsX9_where wsX2_gorseOfLast := goodIn_r _ [14, 15, 16, 17, 18, 19, 20, 21, 22, 23, 24, 25, 26, 27, 59, 60, 50, 51, 52, 53, 54, 55, 56, 57, 58, 61, 62, 63, 64, 65, 66, 67, 68, 69, 70] (by decide +kernel) (by decide +kernel)
set_option maxRecDepth 20000 in
theorem gX9_where_X2_gorseOfLast : GoodIn wsX9_where (wsV RX9 211 RX2 yX2_gorseOfLast wsX2_gorseOfLast) := goodIn_app (goodIn_of _ (by decide +kernel)) ggX9_where_X2_gorseOfLast
set_option maxRecDepth 20000 in
theorem ggX9_where_X3_gorseOf : GoodIn wsX9_where wsX3_gorseOf := goodIn_r _ [21, 22, 23, 24, 25, 20, 26, 27, 61, 62, 63, 64, 65, 66, 67, 68, 69, 70] (by decide +kernel) (by decide +kernel)
set_option maxRecDepth 20000 in
theorem gX9_where_X3_gorseOf : GoodIn wsX9_where (wsV RX9 151 RX3 yX3_gorseOf wsX3_gorseOf) := goodIn_app (goodIn_of _ (by decide +kernel)) ggX9_where_X3_gorseOf
set_option maxRecDepth 20000 in
theorem ggX9_where_X9_fraction : GoodIn wsX9_where wsX9_fraction := goodIn_r _ [32, 33, 34, 35, 36, 37, 38, 31, 39] (by decide +kernel) (by decide +kernel)
set_option maxRecDepth 20000 in
theorem gX9_where_X9_fraction : GoodIn wsX9_where (va_wsS RX9 207 yX9_fraction wsX9_fraction) := goodIn_app (goodIn_of _ (by decide +kernel)) ggX9_where_X9_fraction
theorem dX9_where_0 : decode cX9_where 0 = .ok (.aload_n 0, 1) := by decide +kernel
theorem dX9_where_1 : decode cX9_where 1 = .ok (.getfield 26, 3) := by decide +kernel
theorem dX9_where_4 : decode cX9_where 4 = .ok (.iload_n 1, 1) := by decide +kernel
theorem dX9_where_5 : decode cX9_where 5 = .ok (.invokevirtual 154, 3) := by decide +kernel
theorem dX9_where_8 : decode cX9_where 8 = .ok (.ifCond .ne 5, 3) := by decide +kernel
theorem dX9_where_11 : decode cX9_where 11 = .ok (.iconst (-1), 1) := by decide +kernel
theorem dX9_where_12 : decode cX9_where 12 = .ok (.ireturn, 1) := by decide +kernel
theorem dX9_where_13 : decode cX9_where 13 = .ok (.aload_n 0, 1) := by decide +kernel
theorem dX9_where_14 : decode cX9_where 14 = .ok (.getfield 63, 3) := by decide +kernel
theorem dX9_where_17 : decode cX9_where 17 = .ok (.aload_n 0, 1) := by decide +kernel
theorem dX9_where_18 : decode cX9_where 18 = .ok (.getfield 26, 3) := by decide +kernel
theorem dX9_where_21 : decode cX9_where 21 = .ok (.getfield 110, 3) := by decide +kernel
theorem dX9_where_24 : decode cX9_where 24 = .ok (.invokevirtual 211, 3) := by decide +kernel
theorem dX9_where_27 : decode cX9_where 27 = .ok (.istore_n 3, 1) := by decide +kernel
theorem dX9_where_28 : decode cX9_where 28 = .ok (.iload_n 3, 1) := by decide +kernel
theorem dX9_where_29 : decode cX9_where 29 = .ok (.ifCond .gt 6, 3) := by decide +kernel
theorem dX9_where_32 : decode cX9_where 32 = .ok (.bipush (-3), 2) := by decide +kernel
theorem dX9_where_34 : decode cX9_where 34 = .ok (.ireturn, 1) := by decide +kernel
theorem dX9_where_35 : decode cX9_where 35 = .ok (.aload_n 0, 1) := by decide +kernel
theorem dX9_where_36 : decode cX9_where 36 = .ok (.getfield 19, 3) := by decide +kernel
theorem dX9_where_39 : decode cX9_where 39 = .ok (.iload_n 1, 1) := by decide +kernel
theorem dX9_where_40 : decode cX9_where 40 = .ok (.invokevirtual 151, 3) := by decide +kernel
theorem dX9_where_43 : decode cX9_where 43 = .ok (.iload_n 3, 1) := by decide +kernel
theorem dX9_where_44 : decode cX9_where 44 = .ok (.iload_n 2, 1) := by decide +kernel
theorem dX9_where_45 : decode cX9_where 45 = .ok (.invokestatic 207, 3) := by decide +kernel
theorem dX9_where_48 : decode cX9_where 48 = .ok (.ireturn, 1) := by decide +kernel
set_option maxRecDepth 20000 in
theorem ggX9_back_X2_gorseOfLast : GoodIn wsX9_back wsX2_gorseOfLast := goodIn_r _ [7, 8, 9, 10, 11, 12, 13, 14, 15, 16, 17, 18, 19, 20, 45, 46, 36, 37, 38, 39, 40, 41, 42, 43, 44, 47, 48, 49, 50, 51, 52, 53, 54, 55, 56] (by decide +kernel) (by decide +kernel)
set_option maxRecDepth 20000 in
theorem gX9_back_X2_gorseOfLast : GoodIn wsX9_back (wsV RX9 211 RX2 yX2_gorseOfLast wsX2_gorseOfLast) := goodIn_app (goodIn_of _ (by decide +kernel)) ggX9_back_X2_gorseOfLast
set_option maxRecDepth 20000 in
theorem ggX9_back_X2_howFarBack : GoodIn wsX9_back wsX2_howFarBack := goodIn_r _ [24, 8, 25, 4, 5, 6, 7, 9, 10, 11, 12, 13, 14, 15, 16, 17, 18, 19, 20, 45, 46, 36, 37, 38, 39, 40, 41, 42, 43, 44, 47, 48, 49, 50, 51, 52, 53, 54, 55, 56] (by decide +kernel) (by decide +kernel)
set_option maxRecDepth 20000 in
theorem gX9_back_X2_howFarBack : GoodIn wsX9_back (wsV RX9 214 RX2 yX2_howFarBack wsX2_howFarBack) := goodIn_app (goodIn_of _ (by decide +kernel)) ggX9_back_X2_howFarBack
theorem dX9_back_0 : decode cX9_back 0 = .ok (.iload_n 1, 1) := by decide +kernel
theorem dX9_back_1 : decode cX9_back 1 = .ok (.iconst 1, 1) := by decide +kernel
theorem dX9_back_2 : decode cX9_back 2 = .ok (.if_icmp .lt 9, 3) := by decide +kernel
theorem dX9_back_5 : decode cX9_back 5 = .ok (.iload_n 1, 1) := by decide +kernel
theorem dX9_back_6 : decode cX9_back 6 = .ok (.bipush 10, 2) := by decide +kernel
theorem dX9_back_8 : decode cX9_back 8 = .ok (.if_icmp .le 6, 3) := by decide +kernel
theorem dX9_back_11 : decode cX9_back 11 = .ok (.bipush (-2), 2) := by decide +kernel
theorem dX9_back_13 : decode cX9_back 13 = .ok (.ireturn, 1) := by decide +kernel
theorem dX9_back_14 : decode cX9_back 14 = .ok (.aload_n 0, 1) := by decide +kernel
theorem dX9_back_15 : decode cX9_back 15 = .ok (.getfield 63, 3) := by decide +kernel
theorem dX9_back_18 : decode cX9_back 18 = .ok (.aload_n 0, 1) := by decide +kernel
theorem dX9_back_19 : decode cX9_back 19 = .ok (.getfield 26, 3) := by decide +kernel
theorem dX9_back_22 : decode cX9_back 22 = .ok (.getfield 110, 3) := by decide +kernel
theorem dX9_back_25 : decode cX9_back 25 = .ok (.invokevirtual 211, 3) := by decide +kernel
theorem dX9_back_28 : decode cX9_back 28 = .ok (.ifCond .gt 6, 3) := by decide +kernel
theorem dX9_back_31 : decode cX9_back 31 = .ok (.bipush (-3), 2) := by decide +kernel
theorem dX9_back_33 : decode cX9_back 33 = .ok (.ireturn, 1) := by decide +kernel
theorem dX9_back_34 : decode cX9_back 34 = .ok (.aload_n 0, 1) := by decide +kernel
theorem dX9_back_35 : decode cX9_back 35 = .ok (.getfield 63, 3) := by decide +kernel
theorem dX9_back_38 : decode cX9_back 38 = .ok (.iload_n 1, 1) := by decide +kernel
theorem dX9_back_39 : decode cX9_back 39 = .ok (.invokevirtual 214, 3) := by decide +kernel
theorem dX9_back_42 : decode cX9_back 42 = .ok (.ireturn, 1) := by decide +kernel
set_option maxRecDepth 20000 in
theorem ggX9_shows_X3_has : GoodIn wsX9_shows wsX3_has := goodIn_r _ [7, 8, 25, 26, 27, 28, 29, 30, 31, 32, 33, 34] (by decide +kernel) (by decide +kernel)
set_option maxRecDepth 20000 in
theorem gX9_shows_X3_has : GoodIn wsX9_shows (wsV RX9 142 RX3 yX3_has wsX3_has) := goodIn_app (goodIn_of _ (by decide +kernel)) ggX9_shows_X3_has
set_option maxRecDepth 20000 in
theorem ggX9_shows_X2_firstShort : GoodIn wsX9_shows wsX2_firstShort := goodIn_r _ [13, 14, 35, 36, 25, 26, 27, 28, 29, 30, 31, 32, 33, 34] (by decide +kernel) (by decide +kernel)
set_option maxRecDepth 20000 in
theorem gX9_shows_X2_firstShort : GoodIn wsX9_shows (wsV RX9 217 RX2 yX2_firstShort wsX2_firstShort) := goodIn_app (goodIn_of _ (by decide +kernel)) ggX9_shows_X2_firstShort
theorem dX9_shows_0 : decode cX9_shows 0 = .ok (.aload_n 0, 1) := by decide +kernel
theorem dX9_shows_1 : decode cX9_shows 1 = .ok (.getfield 19, 3) := by decide +kernel
theorem dX9_shows_4 : decode cX9_shows 4 = .ok (.iload_n 1, 1) := by decide +kernel
theorem dX9_shows_5 : decode cX9_shows 5 = .ok (.invokevirtual 142, 3) := by decide +kernel
theorem dX9_shows_8 : decode cX9_shows 8 = .ok (.ifCond .ne 5, 3) := by decide +kernel
theorem dX9_shows_11 : decode cX9_shows 11 = .ok (.iconst (-1), 1) := by decide +kernel
theorem dX9_shows_12 : decode cX9_shows 12 = .ok (.ireturn, 1) := by decide +kernel
theorem dX9_shows_13 : decode cX9_shows 13 = .ok (.iload_n 2, 1) := by decide +kernel
theorem dX9_shows_14 : decode cX9_shows 14 = .ok (.iconst 2, 1) := by decide +kernel
theorem dX9_shows_15 : decode cX9_shows 15 = .ok (.if_icmp .lt 9, 3) := by decide +kernel
theorem dX9_shows_18 : decode cX9_shows 18 = .ok (.iload_n 2, 1) := by decide +kernel
theorem dX9_shows_19 : decode cX9_shows 19 = .ok (.bipush 9, 2) := by decide +kernel
theorem dX9_shows_21 : decode cX9_shows 21 = .ok (.if_icmp .le 6, 3) := by decide +kernel
theorem dX9_shows_24 : decode cX9_shows 24 = .ok (.bipush (-2), 2) := by decide +kernel
theorem dX9_shows_26 : decode cX9_shows 26 = .ok (.ireturn, 1) := by decide +kernel
theorem dX9_shows_27 : decode cX9_shows 27 = .ok (.aload_n 0, 1) := by decide +kernel
theorem dX9_shows_28 : decode cX9_shows 28 = .ok (.getfield 63, 3) := by decide +kernel
theorem dX9_shows_31 : decode cX9_shows 31 = .ok (.iload_n 1, 1) := by decide +kernel
theorem dX9_shows_32 : decode cX9_shows 32 = .ok (.iload_n 2, 1) := by decide +kernel
theorem dX9_shows_33 : decode cX9_shows 33 = .ok (.invokevirtual 217, 3) := by decide +kernel
theorem dX9_shows_36 : decode cX9_shows 36 = .ok (.ireturn, 1) := by decide +kernel
set_option maxRecDepth 20000 in
theorem ggX9_soonest_X2_bestArrows : GoodIn wsX9_soonest wsX2_bestArrows := goodIn_r _ [6, 7, 8, 9, 5, 10, 11, 12, 13, 14, 15, 16, 17, 18, 19, 30, 31, 32, 33, 34, 35, 36, 37, 38, 39, 40, 41] (by decide +kernel) (by decide +kernel)
set_option maxRecDepth 20000 in
theorem gX9_soonest_X2_bestArrows : GoodIn wsX9_soonest (wsV RX9 220 RX2 yX2_bestArrows wsX2_bestArrows) := goodIn_app (goodIn_of _ (by decide +kernel)) ggX9_soonest_X2_bestArrows
theorem dX9_soonest_0 : decode cX9_soonest 0 = .ok (.aload_n 0, 1) := by decide +kernel
theorem dX9_soonest_1 : decode cX9_soonest 1 = .ok (.getfield 63, 3) := by decide +kernel
theorem dX9_soonest_4 : decode cX9_soonest 4 = .ok (.invokevirtual 220, 3) := by decide +kernel
theorem dX9_soonest_7 : decode cX9_soonest 7 = .ok (.ireturn, 1) := by decide +kernel
set_option maxRecDepth 20000 in
theorem ggX9_test_X6_append : GoodIn wsX9_test wsX6_append := goodIn_r _ [6, 7, 8, 9, 20, 21, 22, 23, 24, 25] (by decide +kernel) (by decide +kernel)
set_option maxRecDepth 20000 in
theorem gX9_test_X6_append : GoodIn wsX9_test (wsV RX9 223 RX6 yX6_append wsX6_append) := goodIn_app (goodIn_of _ (by decide +kernel)) ggX9_test_X6_append
theorem dX9_test_0 : decode cX9_test 0 = .ok (.iload_n 1, 1) := by decide +kernel
theorem dX9_test_1 : decode cX9_test 1 = .ok (.ifCond .lt 21, 3) := by decide +kernel
theorem dX9_test_4 : decode cX9_test 4 = .ok (.iload_n 1, 1) := by decide +kernel
theorem dX9_test_5 : decode cX9_test 5 = .ok (.bipush 8, 2) := by decide +kernel
theorem dX9_test_7 : decode cX9_test 7 = .ok (.if_icmp .ge 15, 3) := by decide +kernel
theorem dX9_test_10 : decode cX9_test 10 = .ok (.iload_n 2, 1) := by decide +kernel
theorem dX9_test_11 : decode cX9_test 11 = .ok (.bipush (-9), 2) := by decide +kernel
theorem dX9_test_13 : decode cX9_test 13 = .ok (.if_icmp .lt 9, 3) := by decide +kernel
theorem dX9_test_16 : decode cX9_test 16 = .ok (.iload_n 2, 1) := by decide +kernel
theorem dX9_test_17 : decode cX9_test 17 = .ok (.bipush 9, 2) := by decide +kernel
theorem dX9_test_19 : decode cX9_test 19 = .ok (.if_icmp .le 6, 3) := by decide +kernel
theorem dX9_test_22 : decode cX9_test 22 = .ok (.bipush (-2), 2) := by decide +kernel
theorem dX9_test_24 : decode cX9_test 24 = .ok (.ireturn, 1) := by decide +kernel
theorem dX9_test_25 : decode cX9_test 25 = .ok (.aload_n 0, 1) := by decide +kernel
theorem dX9_test_26 : decode cX9_test 26 = .ok (.getfield 47, 3) := by decide +kernel
theorem dX9_test_29 : decode cX9_test 29 = .ok (.iload_n 1, 1) := by decide +kernel
theorem dX9_test_30 : decode cX9_test 30 = .ok (.iload_n 2, 1) := by decide +kernel
theorem dX9_test_31 : decode cX9_test 31 = .ok (.invokevirtual 223, 3) := by decide +kernel
theorem dX9_test_34 : decode cX9_test 34 = .ok (.ifCond .eq 13, 3) := by decide +kernel
theorem dX9_test_37 : decode cX9_test 37 = .ok (.aload_n 0, 1) := by decide +kernel
theorem dX9_test_38 : decode cX9_test 38 = .ok (.getfield 47, 3) := by decide +kernel
theorem dX9_test_41 : decode cX9_test 41 = .ok (.getfield 137, 3) := by decide +kernel
theorem dX9_test_44 : decode cX9_test 44 = .ok (.goto 5, 3) := by decide +kernel
theorem dX9_test_47 : decode cX9_test 47 = .ok (.bipush (-4), 2) := by decide +kernel
theorem dX9_test_49 : decode cX9_test 49 = .ok (.ireturn, 1) := by decide +kernel
theorem dX9_untest_0 : decode cX9_untest 0 = .ok (.aload_n 0, 1) := by decide +kernel
theorem dX9_untest_1 : decode cX9_untest 1 = .ok (.getfield 47, 3) := by decide +kernel
theorem dX9_untest_4 : decode cX9_untest 4 = .ok (.getfield 137, 3) := by decide +kernel
theorem dX9_untest_7 : decode cX9_untest 7 = .ok (.istore_n 1, 1) := by decide +kernel
theorem dX9_untest_8 : decode cX9_untest 8 = .ok (.aload_n 0, 1) := by decide +kernel
theorem dX9_untest_9 : decode cX9_untest 9 = .ok (.getfield 47, 3) := by decide +kernel
theorem dX9_untest_12 : decode cX9_untest 12 = .ok (.iconst 0, 1) := by decide +kernel
theorem dX9_untest_13 : decode cX9_untest 13 = .ok (.putfield 137, 3) := by decide +kernel
theorem dX9_untest_16 : decode cX9_untest 16 = .ok (.iload_n 1, 1) := by decide +kernel
theorem dX9_untest_17 : decode cX9_untest 17 = .ok (.ireturn, 1) := by decide +kernel
set_option maxRecDepth 20000 in
theorem ggX9_changes_X6_seekChanges : GoodIn wsX9_changes wsX6_seekChanges := goodIn_r _ [7, 8, 9, 10, 11, 12, 13, 6, 14, 15, 16, 17, 18, 19, 20, 21, 42, 43, 44, 45, 46, 47] (by decide +kernel) (by decide +kernel)
set_option maxRecDepth 20000 in
theorem gX9_changes_X6_seekChanges : GoodIn wsX9_changes (wsV RX9 227 RX6 yX6_seekChanges wsX6_seekChanges) := goodIn_app (goodIn_of _ (by decide +kernel)) ggX9_changes_X6_seekChanges
theorem dX9_changes_0 : decode cX9_changes 0 = .ok (.iload_n 1, 1) := by decide +kernel
theorem dX9_changes_1 : decode cX9_changes 1 = .ok (.ifCond .lt 8, 3) := by decide +kernel
theorem dX9_changes_4 : decode cX9_changes 4 = .ok (.iload_n 1, 1) := by decide +kernel
theorem dX9_changes_5 : decode cX9_changes 5 = .ok (.iconst 2, 1) := by decide +kernel
theorem dX9_changes_6 : decode cX9_changes 6 = .ok (.if_icmp .le 6, 3) := by decide +kernel
theorem dX9_changes_9 : decode cX9_changes 9 = .ok (.bipush (-2), 2) := by decide +kernel
theorem dX9_changes_11 : decode cX9_changes 11 = .ok (.ireturn, 1) := by decide +kernel
theorem dX9_changes_12 : decode cX9_changes 12 = .ok (.aload_n 0, 1) := by decide +kernel
theorem dX9_changes_13 : decode cX9_changes 13 = .ok (.getfield 47, 3) := by decide +kernel
theorem dX9_changes_16 : decode cX9_changes 16 = .ok (.aload_n 0, 1) := by decide +kernel
theorem dX9_changes_17 : decode cX9_changes 17 = .ok (.getfield 19, 3) := by decide +kernel
theorem dX9_changes_20 : decode cX9_changes 20 = .ok (.getfield 226, 3) := by decide +kernel
theorem dX9_changes_23 : decode cX9_changes 23 = .ok (.invokevirtual 227, 3) := by decide +kernel
theorem dX9_changes_26 : decode cX9_changes 26 = .ok (.iload_n 1, 1) := by decide +kernel
theorem dX9_changes_27 : decode cX9_changes 27 = .ok (.lookupswitch 41 #[(0, 25), (1, 33)], 25) := by decide +kernel
theorem dX9_changes_52 : decode cX9_changes 52 = .ok (.aload_n 0, 1) := by decide +kernel
theorem dX9_changes_53 : decode cX9_changes 53 = .ok (.getfield 47, 3) := by decide +kernel
theorem dX9_changes_56 : decode cX9_changes 56 = .ok (.getfield 230, 3) := by decide +kernel
theorem dX9_changes_59 : decode cX9_changes 59 = .ok (.ireturn, 1) := by decide +kernel
theorem dX9_changes_60 : decode cX9_changes 60 = .ok (.aload_n 0, 1) := by decide +kernel
theorem dX9_changes_61 : decode cX9_changes 61 = .ok (.getfield 47, 3) := by decide +kernel
theorem dX9_changes_64 : decode cX9_changes 64 = .ok (.getfield 233, 3) := by decide +kernel
theorem dX9_changes_67 : decode cX9_changes 67 = .ok (.ireturn, 1) := by decide +kernel
theorem dX9_changes_68 : decode cX9_changes 68 = .ok (.aload_n 0, 1) := by decide +kernel
theorem dX9_changes_69 : decode cX9_changes 69 = .ok (.getfield 47, 3) := by decide +kernel
theorem dX9_changes_72 : decode cX9_changes 72 = .ok (.getfield 236, 3) := by decide +kernel
theorem dX9_changes_75 : decode cX9_changes 75 = .ok (.ireturn, 1) := by decide +kernel
set_option maxRecDepth 20000 in
theorem ggX9_rests_X1_reaches : GoodIn wsX9_rests wsX1_reaches := goodIn_r _ [7, 8, 9, 96, 97, 98, 99, 100, 101, 102, 103, 104, 105, 106, 107, 108, 109, 110, 111, 112, 113, 114, 115, 116, 117] (by decide +kernel) (by decide +kernel)
set_option maxRecDepth 20000 in
theorem gX9_rests_X1_reaches : GoodIn wsX9_rests (wsV RX9 192 RX1 yX1_reaches wsX1_reaches) := goodIn_app (goodIn_of _ (by decide +kernel)) ggX9_rests_X1_reaches
set_option maxRecDepth 20000 in
theorem ggX9_rests_X4_seekRests : GoodIn wsX9_rests wsX4_seekRests := goodIn_r _ [14, 15, 16, 17, 18, 19, 20, 21, 22, 23, 6, 24, 9, 25, 26, 27, 28, 29, 30, 31, 32, 33, 34, 35, 36, 8, 37, 38, 39, 40, 41, 42, 43, 44, 45, 46, 47, 48, 49, 50, 51, 52, 53, 54, 55, 56, 57, 58, 59, 60, 61, 62, 63, 13, 64, 65, 66, 67, 68, 69, 70, 71, 72, 73, 74, 75, 76, 77, 78, 79, 90, 91, 92, 93, 94, 95, 96, 97, 98, 109, 110, 111, 112, 113, 114, 115, 116, 117, 99, 100, 101, 102, 103, 104, 105, 106, 107, 108] (by decide +kernel) (by decide +kernel)
set_option maxRecDepth 20000 in
theorem gX9_rests_X4_seekRests : GoodIn wsX9_rests (wsV RX9 239 RX4 yX4_seekRests wsX4_seekRests) := goodIn_app (goodIn_of _ (by decide +kernel)) ggX9_rests_X4_seekRests
theorem dX9_rests_0 : decode cX9_rests 0 = .ok (.aload_n 0, 1) := by decide +kernel
theorem dX9_rests_1 : decode cX9_rests 1 = .ok (.getfield 56, 3) := by decide +kernel
theorem dX9_rests_4 : decode cX9_rests 4 = .ok (.iload_n 1, 1) := by decide +kernel
theorem dX9_rests_5 : decode cX9_rests 5 = .ok (.invokevirtual 192, 3) := by decide +kernel
theorem dX9_rests_8 : decode cX9_rests 8 = .ok (.ifCond .eq 12, 3) := by decide +kernel
theorem dX9_rests_11 : decode cX9_rests 11 = .ok (.iload_n 2, 1) := by decide +kernel
theorem dX9_rests_12 : decode cX9_rests 12 = .ok (.ifCond .lt 8, 3) := by decide +kernel
theorem dX9_rests_15 : decode cX9_rests 15 = .ok (.iload_n 2, 1) := by decide +kernel
theorem dX9_rests_16 : decode cX9_rests 16 = .ok (.iconst 1, 1) := by decide +kernel
theorem dX9_rests_17 : decode cX9_rests 17 = .ok (.if_icmp .le 6, 3) := by decide +kernel
theorem dX9_rests_20 : decode cX9_rests 20 = .ok (.bipush (-2), 2) := by decide +kernel
theorem dX9_rests_22 : decode cX9_rests 22 = .ok (.ireturn, 1) := by decide +kernel
theorem dX9_rests_23 : decode cX9_rests 23 = .ok (.aload_n 0, 1) := by decide +kernel
theorem dX9_rests_24 : decode cX9_rests 24 = .ok (.getfield 72, 3) := by decide +kernel
theorem dX9_rests_27 : decode cX9_rests 27 = .ok (.iload_n 1, 1) := by decide +kernel
theorem dX9_rests_28 : decode cX9_rests 28 = .ok (.invokevirtual 239, 3) := by decide +kernel
theorem dX9_rests_31 : decode cX9_rests 31 = .ok (.iload_n 2, 1) := by decide +kernel
theorem dX9_rests_32 : decode cX9_rests 32 = .ok (.ifCond .ne 13, 3) := by decide +kernel
theorem dX9_rests_35 : decode cX9_rests 35 = .ok (.aload_n 0, 1) := by decide +kernel
theorem dX9_rests_36 : decode cX9_rests 36 = .ok (.getfield 72, 3) := by decide +kernel
theorem dX9_rests_39 : decode cX9_rests 39 = .ok (.getfield 242, 3) := by decide +kernel
theorem dX9_rests_42 : decode cX9_rests 42 = .ok (.goto 10, 3) := by decide +kernel
theorem dX9_rests_45 : decode cX9_rests 45 = .ok (.aload_n 0, 1) := by decide +kernel
theorem dX9_rests_46 : decode cX9_rests 46 = .ok (.getfield 72, 3) := by decide +kernel
theorem dX9_rests_49 : decode cX9_rests 49 = .ok (.getfield 245, 3) := by decide +kernel
theorem dX9_rests_52 : decode cX9_rests 52 = .ok (.ireturn, 1) := by decide +kernel
set_option maxRecDepth 20000 in
theorem ggX9_chance_X1_reaches : GoodIn wsX9_chance wsX1_reaches := goodIn_r _ [6, 7, 8, 49, 50, 51, 52, 53, 54, 55, 56, 57, 58, 59, 60, 61, 62, 63, 64, 65, 66, 67, 68, 69, 70] (by decide +kernel) (by decide +kernel)
set_option maxRecDepth 20000 in
theorem gX9_chance_X1_reaches : GoodIn wsX9_chance (wsV RX9 192 RX1 yX1_reaches wsX1_reaches) := goodIn_app (goodIn_of _ (by decide +kernel)) ggX9_chance_X1_reaches
set_option maxRecDepth 20000 in
theorem ggX9_chance_X1_waysToLose : GoodIn wsX9_chance wsX1_waysToLose := goodIn_r _ [12, 13, 8, 7, 14, 15, 16, 17, 18, 19, 20, 21, 22, 23, 24, 49, 50, 51, 62, 63, 64, 65, 66, 67, 68, 69, 70, 52, 53, 54, 55, 56, 57, 58, 59, 60, 61] (by decide +kernel) (by decide +kernel)
set_option maxRecDepth 20000 in
theorem gX9_chance_X1_waysToLose : GoodIn wsX9_chance (wsV RX9 246 RX1 yX1_waysToLose wsX1_waysToLose) := goodIn_app (goodIn_of _ (by decide +kernel)) ggX9_chance_X1_waysToLose
set_option maxRecDepth 20000 in
theorem ggX9_chance_X9_powerOfTen : GoodIn wsX9_chance wsX9_powerOfTen := goodIn_r _ [28] (by decide +kernel) (by decide +kernel)
set_option maxRecDepth 20000 in
theorem gX9_chance_X9_powerOfTen : GoodIn wsX9_chance (va_wsS RX9 249 yX9_powerOfTen wsX9_powerOfTen) := goodIn_app (goodIn_of _ (by decide +kernel)) ggX9_chance_X9_powerOfTen
set_option maxRecDepth 20000 in
theorem ggX9_chance_X9_fraction : GoodIn wsX9_chance wsX9_fraction := goodIn_r _ [31, 32, 33, 34, 35, 36, 37, 27, 38] (by decide +kernel) (by decide +kernel)
set_option maxRecDepth 20000 in
theorem gX9_chance_X9_fraction : GoodIn wsX9_chance (va_wsS RX9 207 yX9_fraction wsX9_fraction) := goodIn_app (goodIn_of _ (by decide +kernel)) ggX9_chance_X9_fraction
theorem dX9_chance_0 : decode cX9_chance 0 = .ok (.iload_n 1, 1) := by decide +kernel
theorem dX9_chance_1 : decode cX9_chance 1 = .ok (.iconst 1, 1) := by decide +kernel
theorem dX9_chance_2 : decode cX9_chance 2 = .ok (.if_icmp .lt 30, 3) := by decide +kernel
theorem dX9_chance_5 : decode cX9_chance 5 = .ok (.iload_n 1, 1) := by decide +kernel
theorem dX9_chance_6 : decode cX9_chance 6 = .ok (.bipush 6, 2) := by decide +kernel
theorem dX9_chance_8 : decode cX9_chance 8 = .ok (.if_icmp .gt 24, 3) := by decide +kernel
theorem dX9_chance_11 : decode cX9_chance 11 = .ok (.aload_n 0, 1) := by decide +kernel
theorem dX9_chance_12 : decode cX9_chance 12 = .ok (.getfield 56, 3) := by decide +kernel
theorem dX9_chance_15 : decode cX9_chance 15 = .ok (.iload_n 1, 1) := by decide +kernel
theorem dX9_chance_16 : decode cX9_chance 16 = .ok (.invokevirtual 192, 3) := by decide +kernel
theorem dX9_chance_19 : decode cX9_chance 19 = .ok (.ifCond .eq 13, 3) := by decide +kernel
theorem dX9_chance_22 : decode cX9_chance 22 = .ok (.iload_n 2, 1) := by decide +kernel
theorem dX9_chance_23 : decode cX9_chance 23 = .ok (.ifCond .lt 9, 3) := by decide +kernel
theorem dX9_chance_26 : decode cX9_chance 26 = .ok (.iload_n 2, 1) := by decide +kernel
theorem dX9_chance_27 : decode cX9_chance 27 = .ok (.bipush 6, 2) := by decide +kernel
theorem dX9_chance_29 : decode cX9_chance 29 = .ok (.if_icmp .le 6, 3) := by decide +kernel
theorem dX9_chance_32 : decode cX9_chance 32 = .ok (.bipush (-2), 2) := by decide +kernel
theorem dX9_chance_34 : decode cX9_chance 34 = .ok (.ireturn, 1) := by decide +kernel
theorem dX9_chance_35 : decode cX9_chance 35 = .ok (.aload_n 0, 1) := by decide +kernel
theorem dX9_chance_36 : decode cX9_chance 36 = .ok (.getfield 56, 3) := by decide +kernel
theorem dX9_chance_39 : decode cX9_chance 39 = .ok (.iload_n 1, 1) := by decide +kernel
theorem dX9_chance_40 : decode cX9_chance 40 = .ok (.iload_n 2, 1) := by decide +kernel
theorem dX9_chance_41 : decode cX9_chance 41 = .ok (.invokevirtual 246, 3) := by decide +kernel
theorem dX9_chance_44 : decode cX9_chance 44 = .ok (.iload_n 1, 1) := by decide +kernel
theorem dX9_chance_45 : decode cX9_chance 45 = .ok (.invokestatic 249, 3) := by decide +kernel
theorem dX9_chance_48 : decode cX9_chance 48 = .ok (.iload_n 3, 1) := by decide +kernel
theorem dX9_chance_49 : decode cX9_chance 49 = .ok (.invokestatic 207, 3) := by decide +kernel
theorem dX9_chance_52 : decode cX9_chance 52 = .ok (.ireturn, 1) := by decide +kernel
theorem dX9_seed_0 : decode cX9_seed 0 = .ok (.aload_n 0, 1) := by decide +kernel
theorem dX9_seed_1 : decode cX9_seed 1 = .ok (.getfield 76, 3) := by decide +kernel
theorem dX9_seed_4 : decode cX9_seed 4 = .ok (.lstore_n 3, 1) := by decide +kernel
theorem dX9_seed_5 : decode cX9_seed 5 = .ok (.aload_n 0, 1) := by decide +kernel
theorem dX9_seed_6 : decode cX9_seed 6 = .ok (.lload_n 1, 1) := by decide +kernel
theorem dX9_seed_7 : decode cX9_seed 7 = .ok (.putfield 76, 3) := by decide +kernel
theorem dX9_seed_10 : decode cX9_seed 10 = .ok (.lload_n 3, 1) := by decide +kernel
theorem dX9_seed_11 : decode cX9_seed 11 = .ok (.lreturn, 1) := by decide +kernel
set_option maxRecDepth 20000 in
theorem ggX9_days_X9_lossesOfDay : GoodIn wsX9_days wsX9_lossesOfDay := goodIn_r _ [5, 6, 7, 8, 9, 10, 11, 12, 13, 14, 15, 16, 17, 18, 19, 20, 21, 22, 23, 24, 25, 26, 27, 28, 29, 30, 31, 32, 33, 34, 35, 36, 37, 38, 39, 40, 41, 42, 43, 44, 45, 46, 47, 48, 49, 50, 51] (by decide +kernel) (by decide +kernel)
set_option maxRecDepth 20000 in
theorem gX9_days_X9_lossesOfDay : GoodIn wsX9_days (wsV RX9 252 RX9 yX9_lossesOfDay wsX9_lossesOfDay) := goodIn_app (goodIn_of _ (by decide +kernel)) ggX9_days_X9_lossesOfDay
theorem dX9_days_0 : decode cX9_days 0 = .ok (.iload_n 1, 1) := by decide +kernel
theorem dX9_days_1 : decode cX9_days 1 = .ok (.iconst 1, 1) := by decide +kernel
theorem dX9_days_2 : decode cX9_days 2 = .ok (.if_icmp .lt 9, 3) := by decide +kernel
theorem dX9_days_5 : decode cX9_days 5 = .ok (.iload_n 1, 1) := by decide +kernel
theorem dX9_days_6 : decode cX9_days 6 = .ok (.bipush 20, 2) := by decide +kernel
theorem dX9_days_8 : decode cX9_days 8 = .ok (.if_icmp .le 6, 3) := by decide +kernel
theorem dX9_days_11 : decode cX9_days 11 = .ok (.bipush (-2), 2) := by decide +kernel
theorem dX9_days_13 : decode cX9_days 13 = .ok (.ireturn, 1) := by decide +kernel
theorem dX9_days_14 : decode cX9_days 14 = .ok (.iconst 0, 1) := by decide +kernel
theorem dX9_days_15 : decode cX9_days 15 = .ok (.istore_n 2, 1) := by decide +kernel
theorem dX9_days_16 : decode cX9_days 16 = .ok (.iconst 0, 1) := by decide +kernel
theorem dX9_days_17 : decode cX9_days 17 = .ok (.istore_n 3, 1) := by decide +kernel
theorem dX9_days_18 : decode cX9_days 18 = .ok (.iload_n 3, 1) := by decide +kernel
theorem dX9_days_19 : decode cX9_days 19 = .ok (.iload_n 1, 1) := by decide +kernel
theorem dX9_days_20 : decode cX9_days 20 = .ok (.if_icmp .ge 16, 3) := by decide +kernel
theorem dX9_days_23 : decode cX9_days 23 = .ok (.iload_n 2, 1) := by decide +kernel
theorem dX9_days_24 : decode cX9_days 24 = .ok (.aload_n 0, 1) := by decide +kernel
theorem dX9_days_25 : decode cX9_days 25 = .ok (.invokevirtual 252, 3) := by decide +kernel
theorem dX9_days_28 : decode cX9_days 28 = .ok (.iadd, 1) := by decide +kernel
theorem dX9_days_29 : decode cX9_days 29 = .ok (.istore_n 2, 1) := by decide +kernel
theorem dX9_days_30 : decode cX9_days 30 = .ok (.iinc 3 1, 3) := by decide +kernel
theorem dX9_days_33 : decode cX9_days 33 = .ok (.goto (-15), 3) := by decide +kernel
theorem dX9_days_36 : decode cX9_days 36 = .ok (.iload_n 2, 1) := by decide +kernel
theorem dX9_days_37 : decode cX9_days 37 = .ok (.ireturn, 1) := by decide +kernel
set_option maxRecDepth 20000 in
theorem ggX9_keep_X5_has : GoodIn wsX9_keep wsX5_has := goodIn_r _ [7] (by decide +kernel) (by decide +kernel)
set_option maxRecDepth 20000 in
theorem gX9_keep_X5_has : GoodIn wsX9_keep (wsV RX9 255 RX5 yX5_has wsX5_has) := goodIn_app (goodIn_of _ (by decide +kernel)) ggX9_keep_X5_has
set_option maxRecDepth 20000 in
theorem ggX9_keep_X5_store : GoodIn wsX9_keep wsX5_store := goodIn_r _ [11, 12, 13, 14, 15, 16, 17, 18, 19, 20, 21, 22, 23, 24, 25, 26, 27, 28, 29, 30, 31, 51, 52, 42, 43, 44, 45, 46, 47, 48, 49, 50] (by decide +kernel) (by decide +kernel)
set_option maxRecDepth 20000 in
theorem gX9_keep_X5_store : GoodIn wsX9_keep (wsV RX9 256 RX5 yX5_store wsX5_store) := goodIn_app (goodIn_of _ (by decide +kernel)) ggX9_keep_X5_store
theorem dX9_keep_0 : decode cX9_keep 0 = .ok (.aload_n 0, 1) := by decide +kernel
theorem dX9_keep_1 : decode cX9_keep 1 = .ok (.getfield 40, 3) := by decide +kernel
theorem dX9_keep_4 : decode cX9_keep 4 = .ok (.iload_n 1, 1) := by decide +kernel
theorem dX9_keep_5 : decode cX9_keep 5 = .ok (.invokevirtual 255, 3) := by decide +kernel
theorem dX9_keep_8 : decode cX9_keep 8 = .ok (.ifCond .ne 5, 3) := by decide +kernel
theorem dX9_keep_11 : decode cX9_keep 11 = .ok (.iconst (-1), 1) := by decide +kernel
theorem dX9_keep_12 : decode cX9_keep 12 = .ok (.ireturn, 1) := by decide +kernel
theorem dX9_keep_13 : decode cX9_keep 13 = .ok (.aload_n 0, 1) := by decide +kernel
theorem dX9_keep_14 : decode cX9_keep 14 = .ok (.getfield 40, 3) := by decide +kernel
theorem dX9_keep_17 : decode cX9_keep 17 = .ok (.iload_n 1, 1) := by decide +kernel
theorem dX9_keep_18 : decode cX9_keep 18 = .ok (.aload_n 0, 1) := by decide +kernel
theorem dX9_keep_19 : decode cX9_keep 19 = .ok (.getfield 26, 3) := by decide +kernel
theorem dX9_keep_22 : decode cX9_keep 22 = .ok (.invokevirtual 256, 3) := by decide +kernel
theorem dX9_keep_25 : decode cX9_keep 25 = .ok (.aload_n 0, 1) := by decide +kernel
theorem dX9_keep_26 : decode cX9_keep 26 = .ok (.getfield 26, 3) := by decide +kernel
theorem dX9_keep_29 : decode cX9_keep 29 = .ok (.getfield 110, 3) := by decide +kernel
theorem dX9_keep_32 : decode cX9_keep 32 = .ok (.ireturn, 1) := by decide +kernel
set_option maxRecDepth 20000 in
theorem ggX9_again_X5_has : GoodIn wsX9_again wsX5_has := goodIn_r _ [8] (by decide +kernel) (by decide +kernel)
set_option maxRecDepth 20000 in
theorem gX9_again_X5_has : GoodIn wsX9_again (wsV RX9 255 RX5 yX5_has wsX5_has) := goodIn_app (goodIn_of _ (by decide +kernel)) ggX9_again_X5_has
set_option maxRecDepth 20000 in
theorem ggX9_again_X5_holds : GoodIn wsX9_again wsX5_holds := goodIn_r _ [12, 13, 14, 5, 6, 7, 8, 64, 65] (by decide +kernel) (by decide +kernel)
set_option maxRecDepth 20000 in
theorem gX9_again_X5_holds : GoodIn wsX9_again (wsV RX9 260 RX5 yX5_holds wsX5_holds) := goodIn_app (goodIn_of _ (by decide +kernel)) ggX9_again_X5_holds
set_option maxRecDepth 20000 in
theorem ggX9_again_X5_fetch : GoodIn wsX9_again wsX5_fetch := goodIn_r _ [18, 19, 20, 21, 22, 23, 24, 25, 26, 27, 28, 29, 30, 31, 32, 33, 34, 35, 36, 37, 64, 65, 55, 56, 57, 58, 59, 60, 61, 62, 63] (by decide +kernel) (by decide +kernel)
set_option maxRecDepth 20000 in
theorem gX9_again_X5_fetch : GoodIn wsX9_again (wsV RX9 263 RX5 yX5_fetch wsX5_fetch) := goodIn_app (goodIn_of _ (by decide +kernel)) ggX9_again_X5_fetch
set_option maxRecDepth 20000 in
theorem ggX9_again_X0_forget : GoodIn wsX9_again wsX0_forget := goodIn_r _ [42, 43, 44, 66, 67, 68] (by decide +kernel) (by decide +kernel)
set_option maxRecDepth 20000 in
theorem gX9_again_X0_forget : GoodIn wsX9_again (wsV RX9 100 RX0 yX0_forget wsX0_forget) := goodIn_app (goodIn_of _ (by decide +kernel)) ggX9_again_X0_forget
theorem dX9_again_0 : decode cX9_again 0 = .ok (.aload_n 0, 1) := by decide +kernel
theorem dX9_again_1 : decode cX9_again 1 = .ok (.getfield 40, 3) := by decide +kernel
theorem dX9_again_4 : decode cX9_again 4 = .ok (.iload_n 1, 1) := by decide +kernel
theorem dX9_again_5 : decode cX9_again 5 = .ok (.invokevirtual 255, 3) := by decide +kernel
theorem dX9_again_8 : decode cX9_again 8 = .ok (.ifCond .ne 5, 3) := by decide +kernel
theorem dX9_again_11 : decode cX9_again 11 = .ok (.iconst (-1), 1) := by decide +kernel
theorem dX9_again_12 : decode cX9_again 12 = .ok (.ireturn, 1) := by decide +kernel
theorem dX9_again_13 : decode cX9_again 13 = .ok (.aload_n 0, 1) := by decide +kernel
theorem dX9_again_14 : decode cX9_again 14 = .ok (.getfield 40, 3) := by decide +kernel
theorem dX9_again_17 : decode cX9_again 17 = .ok (.iload_n 1, 1) := by decide +kernel
theorem dX9_again_18 : decode cX9_again 18 = .ok (.invokevirtual 260, 3) := by decide +kernel
theorem dX9_again_21 : decode cX9_again 21 = .ok (.ifCond .ne 6, 3) := by decide +kernel
theorem dX9_again_24 : decode cX9_again 24 = .ok (.bipush (-3), 2) := by decide +kernel
theorem dX9_again_26 : decode cX9_again 26 = .ok (.ireturn, 1) := by decide +kernel
theorem dX9_again_27 : decode cX9_again 27 = .ok (.aload_n 0, 1) := by decide +kernel
theorem dX9_again_28 : decode cX9_again 28 = .ok (.getfield 40, 3) := by decide +kernel
theorem dX9_again_31 : decode cX9_again 31 = .ok (.iload_n 1, 1) := by decide +kernel
theorem dX9_again_32 : decode cX9_again 32 = .ok (.aload_n 0, 1) := by decide +kernel
theorem dX9_again_33 : decode cX9_again 33 = .ok (.getfield 26, 3) := by decide +kernel
theorem dX9_again_36 : decode cX9_again 36 = .ok (.invokevirtual 263, 3) := by decide +kernel
theorem dX9_again_39 : decode cX9_again 39 = .ok (.aload_n 0, 1) := by decide +kernel
theorem dX9_again_40 : decode cX9_again 40 = .ok (.getfield 33, 3) := by decide +kernel
theorem dX9_again_43 : decode cX9_again 43 = .ok (.invokevirtual 100, 3) := by decide +kernel
theorem dX9_again_46 : decode cX9_again 46 = .ok (.aload_n 0, 1) := by decide +kernel
theorem dX9_again_47 : decode cX9_again 47 = .ok (.getfield 26, 3) := by decide +kernel
theorem dX9_again_50 : decode cX9_again 50 = .ok (.getfield 110, 3) := by decide +kernel
theorem dX9_again_53 : decode cX9_again 53 = .ok (.ireturn, 1) := by decide +kernel
set_option maxRecDepth 20000 in
theorem ggX9_lossesOfDay_X3_gorseOf : GoodIn wsX9_lossesOfDay wsX3_gorseOf := goodIn_r _ [11, 12, 13, 14, 15, 10, 16, 17, 37, 38, 39, 40, 41, 42, 43, 44, 45, 46] (by decide +kernel) (by decide +kernel)
set_option maxRecDepth 20000 in
theorem gX9_lossesOfDay_X3_gorseOf : GoodIn wsX9_lossesOfDay (wsV RX9 151 RX3 yX3_gorseOf wsX3_gorseOf) := goodIn_app (goodIn_of _ (by decide +kernel)) ggX9_lossesOfDay_X3_gorseOf
theorem dX9_lossesOfDay_0 : decode cX9_lossesOfDay 0 = .ok (.iconst 0, 1) := by decide +kernel
theorem dX9_lossesOfDay_1 : decode cX9_lossesOfDay 1 = .ok (.istore_n 1, 1) := by decide +kernel
theorem dX9_lossesOfDay_2 : decode cX9_lossesOfDay 2 = .ok (.aload_n 0, 1) := by decide +kernel
theorem dX9_lossesOfDay_3 : decode cX9_lossesOfDay 3 = .ok (.getfield 26, 3) := by decide +kernel
theorem dX9_lossesOfDay_6 : decode cX9_lossesOfDay 6 = .ok (.getfield 110, 3) := by decide +kernel
theorem dX9_lossesOfDay_9 : decode cX9_lossesOfDay 9 = .ok (.istore_n 2, 1) := by decide +kernel
theorem dX9_lossesOfDay_10 : decode cX9_lossesOfDay 10 = .ok (.iload_n 2, 1) := by decide +kernel
theorem dX9_lossesOfDay_11 : decode cX9_lossesOfDay 11 = .ok (.aload_n 0, 1) := by decide +kernel
theorem dX9_lossesOfDay_12 : decode cX9_lossesOfDay 12 = .ok (.getfield 19, 3) := by decide +kernel
theorem dX9_lossesOfDay_15 : decode cX9_lossesOfDay 15 = .ok (.getfield 104, 3) := by decide +kernel
theorem dX9_lossesOfDay_18 : decode cX9_lossesOfDay 18 = .ok (.if_icmp .ge 52, 3) := by decide +kernel
theorem dX9_lossesOfDay_21 : decode cX9_lossesOfDay 21 = .ok (.aload_n 0, 1) := by decide +kernel
theorem dX9_lossesOfDay_22 : decode cX9_lossesOfDay 22 = .ok (.aload_n 0, 1) := by decide +kernel
theorem dX9_lossesOfDay_23 : decode cX9_lossesOfDay 23 = .ok (.getfield 76, 3) := by decide +kernel
theorem dX9_lossesOfDay_26 : decode cX9_lossesOfDay 26 = .ok (.ldc2_w 266, 3) := by decide +kernel
theorem dX9_lossesOfDay_29 : decode cX9_lossesOfDay 29 = .ok (.lmul, 1) := by decide +kernel
theorem dX9_lossesOfDay_30 : decode cX9_lossesOfDay 30 = .ok (.ldc2_w 268, 3) := by decide +kernel
theorem dX9_lossesOfDay_33 : decode cX9_lossesOfDay 33 = .ok (.ladd, 1) := by decide +kernel
theorem dX9_lossesOfDay_34 : decode cX9_lossesOfDay 34 = .ok (.putfield 76, 3) := by decide +kernel
theorem dX9_lossesOfDay_37 : decode cX9_lossesOfDay 37 = .ok (.aload_n 0, 1) := by decide +kernel
theorem dX9_lossesOfDay_38 : decode cX9_lossesOfDay 38 = .ok (.getfield 76, 3) := by decide +kernel
theorem dX9_lossesOfDay_41 : decode cX9_lossesOfDay 41 = .ok (.bipush 33, 2) := by decide +kernel
theorem dX9_lossesOfDay_43 : decode cX9_lossesOfDay 43 = .ok (.lushr, 1) := by decide +kernel
theorem dX9_lossesOfDay_44 : decode cX9_lossesOfDay 44 = .ok (.ldc2_w 270, 3) := by decide +kernel
theorem dX9_lossesOfDay_47 : decode cX9_lossesOfDay 47 = .ok (.lrem, 1) := by decide +kernel
theorem dX9_lossesOfDay_48 : decode cX9_lossesOfDay 48 = .ok (.aload_n 0, 1) := by decide +kernel
theorem dX9_lossesOfDay_49 : decode cX9_lossesOfDay 49 = .ok (.getfield 19, 3) := by decide +kernel
theorem dX9_lossesOfDay_52 : decode cX9_lossesOfDay 52 = .ok (.iload_n 2, 1) := by decide +kernel
theorem dX9_lossesOfDay_53 : decode cX9_lossesOfDay 53 = .ok (.invokevirtual 151, 3) := by decide +kernel
theorem dX9_lossesOfDay_56 : decode cX9_lossesOfDay 56 = .ok (.i2l, 1) := by decide +kernel
theorem dX9_lossesOfDay_57 : decode cX9_lossesOfDay 57 = .ok (.lcmp, 1) := by decide +kernel
theorem dX9_lossesOfDay_58 : decode cX9_lossesOfDay 58 = .ok (.ifCond .ge 6, 3) := by decide +kernel
theorem dX9_lossesOfDay_61 : decode cX9_lossesOfDay 61 = .ok (.iinc 1 1, 3) := by decide +kernel
theorem dX9_lossesOfDay_64 : decode cX9_lossesOfDay 64 = .ok (.iinc 2 1, 3) := by decide +kernel
theorem dX9_lossesOfDay_67 : decode cX9_lossesOfDay 67 = .ok (.goto (-57), 3) := by decide +kernel
theorem dX9_lossesOfDay_70 : decode cX9_lossesOfDay 70 = .ok (.iload_n 1, 1) := by decide +kernel
theorem dX9_lossesOfDay_71 : decode cX9_lossesOfDay 71 = .ok (.ireturn, 1) := by decide +kernel
theorem dX9_powerOfTen_0 : decode cX9_powerOfTen 0 = .ok (.iconst 1, 1) := by decide +kernel
theorem dX9_powerOfTen_1 : decode cX9_powerOfTen 1 = .ok (.istore_n 1, 1) := by decide +kernel
theorem dX9_powerOfTen_2 : decode cX9_powerOfTen 2 = .ok (.iconst 0, 1) := by decide +kernel
theorem dX9_powerOfTen_3 : decode cX9_powerOfTen 3 = .ok (.istore_n 2, 1) := by decide +kernel
theorem dX9_powerOfTen_4 : decode cX9_powerOfTen 4 = .ok (.iload_n 2, 1) := by decide +kernel
theorem dX9_powerOfTen_5 : decode cX9_powerOfTen 5 = .ok (.iload_n 0, 1) := by decide +kernel
theorem dX9_powerOfTen_6 : decode cX9_powerOfTen 6 = .ok (.if_icmp .ge 14, 3) := by decide +kernel
theorem dX9_powerOfTen_9 : decode cX9_powerOfTen 9 = .ok (.iload_n 1, 1) := by decide +kernel
theorem dX9_powerOfTen_10 : decode cX9_powerOfTen 10 = .ok (.bipush 10, 2) := by decide +kernel
theorem dX9_powerOfTen_12 : decode cX9_powerOfTen 12 = .ok (.imul, 1) := by decide +kernel
theorem dX9_powerOfTen_13 : decode cX9_powerOfTen 13 = .ok (.istore_n 1, 1) := by decide +kernel
theorem dX9_powerOfTen_14 : decode cX9_powerOfTen 14 = .ok (.iinc 2 1, 3) := by decide +kernel
theorem dX9_powerOfTen_17 : decode cX9_powerOfTen 17 = .ok (.goto (-13), 3) := by decide +kernel
theorem dX9_powerOfTen_20 : decode cX9_powerOfTen 20 = .ok (.iload_n 1, 1) := by decide +kernel
theorem dX9_powerOfTen_21 : decode cX9_powerOfTen 21 = .ok (.ireturn, 1) := by decide +kernel
set_option maxRecDepth 20000 in
theorem ggX9_fraction_X9_commonDivisor : GoodIn wsX9_fraction wsX9_commonDivisor := goodIn_r _ [8] (by decide +kernel) (by decide +kernel)
set_option maxRecDepth 20000 in
theorem gX9_fraction_X9_commonDivisor : GoodIn wsX9_fraction (va_wsS RX9 272 yX9_commonDivisor wsX9_commonDivisor) := goodIn_app (goodIn_of _ (by decide +kernel)) ggX9_fraction_X9_commonDivisor
theorem dX9_fraction_0 : decode cX9_fraction 0 = .ok (.iload_n 0, 1) := by decide +kernel
theorem dX9_fraction_1 : decode cX9_fraction 1 = .ok (.invokestatic 184, 3) := by decide +kernel
theorem dX9_fraction_4 : decode cX9_fraction 4 = .ok (.iload_n 1, 1) := by decide +kernel
theorem dX9_fraction_5 : decode cX9_fraction 5 = .ok (.invokestatic 272, 3) := by decide +kernel
theorem dX9_fraction_8 : decode cX9_fraction 8 = .ok (.istore_n 3, 1) := by decide +kernel
theorem dX9_fraction_9 : decode cX9_fraction 9 = .ok (.iload_n 3, 1) := by decide +kernel
theorem dX9_fraction_10 : decode cX9_fraction 10 = .ok (.ifCond .ne 5, 3) := by decide +kernel
theorem dX9_fraction_13 : decode cX9_fraction 13 = .ok (.iconst 0, 1) := by decide +kernel
theorem dX9_fraction_14 : decode cX9_fraction 14 = .ok (.ireturn, 1) := by decide +kernel
theorem dX9_fraction_15 : decode cX9_fraction 15 = .ok (.iload_n 2, 1) := by decide +kernel
theorem dX9_fraction_16 : decode cX9_fraction 16 = .ok (.ifCond .eq 9, 3) := by decide +kernel
theorem dX9_fraction_19 : decode cX9_fraction 19 = .ok (.iload_n 0, 1) := by decide +kernel
theorem dX9_fraction_20 : decode cX9_fraction 20 = .ok (.iload_n 3, 1) := by decide +kernel
theorem dX9_fraction_21 : decode cX9_fraction 21 = .ok (.idiv, 1) := by decide +kernel
theorem dX9_fraction_22 : decode cX9_fraction 22 = .ok (.goto 6, 3) := by decide +kernel
theorem dX9_fraction_25 : decode cX9_fraction 25 = .ok (.iload_n 1, 1) := by decide +kernel
theorem dX9_fraction_26 : decode cX9_fraction 26 = .ok (.iload_n 3, 1) := by decide +kernel
theorem dX9_fraction_27 : decode cX9_fraction 27 = .ok (.idiv, 1) := by decide +kernel
theorem dX9_fraction_28 : decode cX9_fraction 28 = .ok (.ireturn, 1) := by decide +kernel
theorem dX9_commonDivisor_0 : decode cX9_commonDivisor 0 = .ok (.iload_n 0, 1) := by decide +kernel
theorem dX9_commonDivisor_1 : decode cX9_commonDivisor 1 = .ok (.istore_n 2, 1) := by decide +kernel
theorem dX9_commonDivisor_2 : decode cX9_commonDivisor 2 = .ok (.iload_n 1, 1) := by decide +kernel
theorem dX9_commonDivisor_3 : decode cX9_commonDivisor 3 = .ok (.istore_n 3, 1) := by decide +kernel
theorem dX9_commonDivisor_4 : decode cX9_commonDivisor 4 = .ok (.iconst 0, 1) := by decide +kernel
theorem dX9_commonDivisor_5 : decode cX9_commonDivisor 5 = .ok (.istore 4, 2) := by decide +kernel
theorem dX9_commonDivisor_7 : decode cX9_commonDivisor 7 = .ok (.iload 4, 2) := by decide +kernel
theorem dX9_commonDivisor_9 : decode cX9_commonDivisor 9 = .ok (.bipush 64, 2) := by decide +kernel
theorem dX9_commonDivisor_11 : decode cX9_commonDivisor 11 = .ok (.if_icmp .ge 23, 3) := by decide +kernel
theorem dX9_commonDivisor_14 : decode cX9_commonDivisor 14 = .ok (.iload_n 3, 1) := by decide +kernel
theorem dX9_commonDivisor_15 : decode cX9_commonDivisor 15 = .ok (.ifCond .eq 19, 3) := by decide +kernel
theorem dX9_commonDivisor_18 : decode cX9_commonDivisor 18 = .ok (.iload_n 2, 1) := by decide +kernel
theorem dX9_commonDivisor_19 : decode cX9_commonDivisor 19 = .ok (.iload_n 3, 1) := by decide +kernel
theorem dX9_commonDivisor_20 : decode cX9_commonDivisor 20 = .ok (.irem, 1) := by decide +kernel
theorem dX9_commonDivisor_21 : decode cX9_commonDivisor 21 = .ok (.istore 5, 2) := by decide +kernel
theorem dX9_commonDivisor_23 : decode cX9_commonDivisor 23 = .ok (.iload_n 3, 1) := by decide +kernel
theorem dX9_commonDivisor_24 : decode cX9_commonDivisor 24 = .ok (.istore_n 2, 1) := by decide +kernel
theorem dX9_commonDivisor_25 : decode cX9_commonDivisor 25 = .ok (.iload 5, 2) := by decide +kernel
theorem dX9_commonDivisor_27 : decode cX9_commonDivisor 27 = .ok (.istore_n 3, 1) := by decide +kernel
theorem dX9_commonDivisor_28 : decode cX9_commonDivisor 28 = .ok (.iinc 4 1, 3) := by decide +kernel
theorem dX9_commonDivisor_31 : decode cX9_commonDivisor 31 = .ok (.goto (-24), 3) := by decide +kernel
theorem dX9_commonDivisor_34 : decode cX9_commonDivisor 34 = .ok (.iload_n 2, 1) := by decide +kernel
theorem dX9_commonDivisor_35 : decode cX9_commonDivisor 35 = .ok (.ireturn, 1) := by decide +kernel
