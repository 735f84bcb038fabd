theorem dX0_init_0 : decode cX0_init 0 = .ok (.aload_n 0, 1) := by decide +kernel
theorem dX0_init_1 : decode cX0_init 1 = .ok (.invokespecial 3, 3) := by decide +kernel
theorem dX0_init_4 : decode cX0_init 4 = .ok (.aload_n 0, 1) := by decide +kernel
theorem dX0_init_5 : decode cX0_init 5 = .ok (.sipush 224, 3) := by decide +kernel
theorem dX0_init_8 : decode cX0_init 8 = .ok (.newarray .int, 2) := by decide +kernel
theorem dX0_init_10 : decode cX0_init 10 = .ok (.putfield 11, 3) := by decide +kernel
theorem dX0_init_13 : decode cX0_init 13 = .ok (.aload_n 0, 1) := by decide +kernel
theorem dX0_init_14 : decode cX0_init 14 = .ok (.iconst 0, 1) := by decide +kernel
theorem dX0_init_15 : decode cX0_init 15 = .ok (.putfield 17, 3) := by decide +kernel
theorem dX0_init_18 : decode cX0_init 18 = .ok (.aload_n 0, 1) := by decide +kernel
theorem dX0_init_19 : decode cX0_init 19 = .ok (.iconst 0, 1) := by decide +kernel
theorem dX0_init_20 : decode cX0_init 20 = .ok (.putfield 21, 3) := by decide +kernel
theorem dX0_init_23 : decode cX0_init 23 = .ok (.return_, 1) := by decide +kernel
set_option maxRecDepth 20000 in
theorem ggX0_remember_X0_startOf : GoodIn wsX0_remember wsX0_startOf := goodIn_r _ [8, 3, 27, 28, 29] (by decide +kernel) (by decide +kernel)
set_option maxRecDepth 20000 in
theorem gX0_remember_X0_startOf : GoodIn wsX0_remember (wsV RX0 24 RX0 yX0_startOf wsX0_startOf) := goodIn_app (goodIn_of _ (by decide +kernel)) ggX0_remember_X0_startOf
set_option maxRecDepth 20000 in
theorem ggX0_remember_X8_saveTo : GoodIn wsX0_remember wsX8_saveTo := goodIn_r _ [13, 14, 15, 16, 17, 18, 19, 20, 21, 22, 23, 24, 25, 26, 30, 31, 32, 33, 34, 35, 36, 37, 38] (by decide +kernel) (by decide +kernel)
set_option maxRecDepth 20000 in
theorem gX0_remember_X8_saveTo : GoodIn wsX0_remember (wsV RX0 28 RX8 yX8_saveTo wsX8_saveTo) := goodIn_app (goodIn_of _ (by decide +kernel)) ggX0_remember_X8_saveTo
theorem dX0_remember_0 : decode cX0_remember 0 = .ok (.aload_n 1, 1) := by decide +kernel
theorem dX0_remember_1 : decode cX0_remember 1 = .ok (.aload_n 0, 1) := by decide +kernel
theorem dX0_remember_2 : decode cX0_remember 2 = .ok (.getfield 11, 3) := by decide +kernel
theorem dX0_remember_5 : decode cX0_remember 5 = .ok (.aload_n 0, 1) := by decide +kernel
theorem dX0_remember_6 : decode cX0_remember 6 = .ok (.aload_n 0, 1) := by decide +kernel
theorem dX0_remember_7 : decode cX0_remember 7 = .ok (.getfield 21, 3) := by decide +kernel
theorem dX0_remember_10 : decode cX0_remember 10 = .ok (.invokevirtual 24, 3) := by decide +kernel
theorem dX0_remember_13 : decode cX0_remember 13 = .ok (.invokevirtual 28, 3) := by decide +kernel
theorem dX0_remember_16 : decode cX0_remember 16 = .ok (.aload_n 0, 1) := by decide +kernel
theorem dX0_remember_17 : decode cX0_remember 17 = .ok (.getfield 21, 3) := by decide +kernel
theorem dX0_remember_20 : decode cX0_remember 20 = .ok (.bipush 14, 2) := by decide +kernel
theorem dX0_remember_22 : decode cX0_remember 22 = .ok (.if_icmp .ne 19, 3) := by decide +kernel
theorem dX0_remember_25 : decode cX0_remember 25 = .ok (.aload_n 0, 1) := by decide +kernel
theorem dX0_remember_26 : decode cX0_remember 26 = .ok (.aload_n 0, 1) := by decide +kernel
theorem dX0_remember_27 : decode cX0_remember 27 = .ok (.getfield 17, 3) := by decide +kernel
theorem dX0_remember_30 : decode cX0_remember 30 = .ok (.iconst 1, 1) := by decide +kernel
theorem dX0_remember_31 : decode cX0_remember 31 = .ok (.iadd, 1) := by decide +kernel
theorem dX0_remember_32 : decode cX0_remember 32 = .ok (.bipush 14, 2) := by decide +kernel
theorem dX0_remember_34 : decode cX0_remember 34 = .ok (.irem, 1) := by decide +kernel
theorem dX0_remember_35 : decode cX0_remember 35 = .ok (.putfield 17, 3) := by decide +kernel
theorem dX0_remember_38 : decode cX0_remember 38 = .ok (.goto 13, 3) := by decide +kernel
theorem dX0_remember_41 : decode cX0_remember 41 = .ok (.aload_n 0, 1) := by decide +kernel
theorem dX0_remember_42 : decode cX0_remember 42 = .ok (.dup, 1) := by decide +kernel
theorem dX0_remember_43 : decode cX0_remember 43 = .ok (.getfield 21, 3) := by decide +kernel
theorem dX0_remember_46 : decode cX0_remember 46 = .ok (.iconst 1, 1) := by decide +kernel
theorem dX0_remember_47 : decode cX0_remember 47 = .ok (.iadd, 1) := by decide +kernel
theorem dX0_remember_48 : decode cX0_remember 48 = .ok (.putfield 21, 3) := by decide +kernel
theorem dX0_remember_51 : decode cX0_remember 51 = .ok (.return_, 1) := by decide +kernel
set_option maxRecDepth 20000 in
theorem ggX0_takeBack_X0_startOf : GoodIn wsX0_takeBack wsX0_startOf := goodIn_r _ [7, 8, 27, 28, 29] (by decide +kernel) (by decide +kernel)
set_option maxRecDepth 20000 in
theorem gX0_takeBack_X0_startOf : GoodIn wsX0_takeBack (wsV RX0 24 RX0 yX0_startOf wsX0_startOf) := goodIn_app (goodIn_of _ (by decide +kernel)) ggX0_takeBack_X0_startOf
set_option maxRecDepth 20000 in
theorem ggX0_takeBack_X8_loadFrom : GoodIn wsX0_takeBack wsX8_loadFrom := goodIn_r _ [13, 14, 15, 16, 17, 18, 19, 20, 21, 22, 23, 24, 25, 26, 30, 31, 32, 33, 34, 35, 36, 37, 38] (by decide +kernel) (by decide +kernel)
set_option maxRecDepth 20000 in
theorem gX0_takeBack_X8_loadFrom : GoodIn wsX0_takeBack (wsV RX0 32 RX8 yX8_loadFrom wsX8_loadFrom) := goodIn_app (goodIn_of _ (by decide +kernel)) ggX0_takeBack_X8_loadFrom
theorem dX0_takeBack_0 : decode cX0_takeBack 0 = .ok (.aload_n 0, 1) := by decide +kernel
theorem dX0_takeBack_1 : decode cX0_takeBack 1 = .ok (.getfield 21, 3) := by decide +kernel
theorem dX0_takeBack_4 : decode cX0_takeBack 4 = .ok (.ifCond .ne 4, 3) := by decide +kernel
theorem dX0_takeBack_7 : decode cX0_takeBack 7 = .ok (.return_, 1) := by decide +kernel
theorem dX0_takeBack_8 : decode cX0_takeBack 8 = .ok (.aload_n 0, 1) := by decide +kernel
theorem dX0_takeBack_9 : decode cX0_takeBack 9 = .ok (.dup, 1) := by decide +kernel
theorem dX0_takeBack_10 : decode cX0_takeBack 10 = .ok (.getfield 21, 3) := by decide +kernel
theorem dX0_takeBack_13 : decode cX0_takeBack 13 = .ok (.iconst 1, 1) := by decide +kernel
theorem dX0_takeBack_14 : decode cX0_takeBack 14 = .ok (.isub, 1) := by decide +kernel
theorem dX0_takeBack_15 : decode cX0_takeBack 15 = .ok (.putfield 21, 3) := by decide +kernel
theorem dX0_takeBack_18 : decode cX0_takeBack 18 = .ok (.aload_n 1, 1) := by decide +kernel
theorem dX0_takeBack_19 : decode cX0_takeBack 19 = .ok (.aload_n 0, 1) := by decide +kernel
theorem dX0_takeBack_20 : decode cX0_takeBack 20 = .ok (.getfield 11, 3) := by decide +kernel
theorem dX0_takeBack_23 : decode cX0_takeBack 23 = .ok (.aload_n 0, 1) := by decide +kernel
theorem dX0_takeBack_24 : decode cX0_takeBack 24 = .ok (.aload_n 0, 1) := by decide +kernel
theorem dX0_takeBack_25 : decode cX0_takeBack 25 = .ok (.getfield 21, 3) := by decide +kernel
theorem dX0_takeBack_28 : decode cX0_takeBack 28 = .ok (.invokevirtual 24, 3) := by decide +kernel
theorem dX0_takeBack_31 : decode cX0_takeBack 31 = .ok (.invokevirtual 32, 3) := by decide +kernel
theorem dX0_takeBack_34 : decode cX0_takeBack 34 = .ok (.return_, 1) := by decide +kernel
theorem dX0_forget_0 : decode cX0_forget 0 = .ok (.aload_n 0, 1) := by decide +kernel
theorem dX0_forget_1 : decode cX0_forget 1 = .ok (.iconst 0, 1) := by decide +kernel
theorem dX0_forget_2 : decode cX0_forget 2 = .ok (.putfield 17, 3) := by decide +kernel
theorem dX0_forget_5 : decode cX0_forget 5 = .ok (.aload_n 0, 1) := by decide +kernel
theorem dX0_forget_6 : decode cX0_forget 6 = .ok (.iconst 0, 1) := by decide +kernel
theorem dX0_forget_7 : decode cX0_forget 7 = .ok (.putfield 21, 3) := by decide +kernel
theorem dX0_forget_10 : decode cX0_forget 10 = .ok (.return_, 1) := by decide +kernel
theorem dX0_startOf_0 : decode cX0_startOf 0 = .ok (.aload_n 0, 1) := by decide +kernel
theorem dX0_startOf_1 : decode cX0_startOf 1 = .ok (.getfield 17, 3) := by decide +kernel
theorem dX0_startOf_4 : decode cX0_startOf 4 = .ok (.iload_n 1, 1) := by decide +kernel
theorem dX0_startOf_5 : decode cX0_startOf 5 = .ok (.iadd, 1) := by decide +kernel
theorem dX0_startOf_6 : decode cX0_startOf 6 = .ok (.bipush 14, 2) := by decide +kernel
theorem dX0_startOf_8 : decode cX0_startOf 8 = .ok (.irem, 1) := by decide +kernel
theorem dX0_startOf_9 : decode cX0_startOf 9 = .ok (.bipush 16, 2) := by decide +kernel
theorem dX0_startOf_11 : decode cX0_startOf 11 = .ok (.imul, 1) := by decide +kernel
theorem dX0_startOf_12 : decode cX0_startOf 12 = .ok (.ireturn, 1) := by decide +kernel
theorem dX1_init_0 : decode cX1_init 0 = .ok (.aload_n 0, 1) := by decide +kernel
theorem dX1_init_1 : decode cX1_init 1 = .ok (.invokespecial 3, 3) := by decide +kernel
theorem dX1_init_4 : decode cX1_init 4 = .ok (.aload_n 0, 1) := by decide +kernel
theorem dX1_init_5 : decode cX1_init 5 = .ok (.bipush 7, 2) := by decide +kernel
theorem dX1_init_7 : decode cX1_init 7 = .ok (.newarray .int, 2) := by decide +kernel
theorem dX1_init_9 : decode cX1_init 9 = .ok (.putfield 9, 3) := by decide +kernel
theorem dX1_init_12 : decode cX1_init 12 = .ok (.aload_n 0, 1) := by decide +kernel
theorem dX1_init_13 : decode cX1_init 13 = .ok (.aload_n 1, 1) := by decide +kernel
theorem dX1_init_14 : decode cX1_init 14 = .ok (.putfield 15, 3) := by decide +kernel
theorem dX1_init_17 : decode cX1_init 17 = .ok (.aload_n 0, 1) := by decide +kernel
theorem dX1_init_18 : decode cX1_init 18 = .ok (.aload_n 2, 1) := by decide +kernel
theorem dX1_init_19 : decode cX1_init 19 = .ok (.putfield 19, 3) := by decide +kernel
theorem dX1_init_22 : decode cX1_init 22 = .ok (.return_, 1) := by decide +kernel
theorem dX1_reaches_0 : decode cX1_reaches 0 = .ok (.iload_n 1, 1) := by decide +kernel
theorem dX1_reaches_1 : decode cX1_reaches 1 = .ok (.ifCond .lt 26, 3) := by decide +kernel
theorem dX1_reaches_4 : decode cX1_reaches 4 = .ok (.iload_n 1, 1) := by decide +kernel
theorem dX1_reaches_5 : decode cX1_reaches 5 = .ok (.aload_n 0, 1) := by decide +kernel
theorem dX1_reaches_6 : decode cX1_reaches 6 = .ok (.getfield 15, 3) := by decide +kernel
theorem dX1_reaches_9 : decode cX1_reaches 9 = .ok (.getfield 23, 3) := by decide +kernel
theorem dX1_reaches_12 : decode cX1_reaches 12 = .ok (.aload_n 0, 1) := by decide +kernel
theorem dX1_reaches_13 : decode cX1_reaches 13 = .ok (.getfield 19, 3) := by decide +kernel
theorem dX1_reaches_16 : decode cX1_reaches 16 = .ok (.getfield 29, 3) := by decide +kernel
theorem dX1_reaches_19 : decode cX1_reaches 19 = .ok (.isub, 1) := by decide +kernel
theorem dX1_reaches_20 : decode cX1_reaches 20 = .ok (.if_icmp .gt 7, 3) := by decide +kernel
theorem dX1_reaches_23 : decode cX1_reaches 23 = .ok (.iconst 1, 1) := by decide +kernel
theorem dX1_reaches_24 : decode cX1_reaches 24 = .ok (.goto 4, 3) := by decide +kernel
theorem dX1_reaches_27 : decode cX1_reaches 27 = .ok (.iconst 0, 1) := by decide +kernel
theorem dX1_reaches_28 : decode cX1_reaches 28 = .ok (.ireturn, 1) := by decide +kernel
set_option maxRecDepth 20000 in
theorem ggX1_errorAt_X3_groundAt : GoodIn wsX1_errorAt wsX3_groundAt := goodIn_r _ [7, 8, 9, 10, 11, 6, 12, 13, 32, 33, 34, 35, 36, 37, 38, 39, 40, 41] (by decide +kernel) (by decide +kernel)
set_option maxRecDepth 20000 in
theorem gX1_errorAt_X3_groundAt : GoodIn wsX1_errorAt (wsV RX1 37 RX3 yX3_groundAt wsX3_groundAt) := goodIn_app (goodIn_of _ (by decide +kernel)) ggX1_errorAt_X3_groundAt
set_option maxRecDepth 20000 in
theorem ggX1_errorAt_X3_bentOf : GoodIn wsX1_errorAt wsX3_bentOf := goodIn_r _ [17, 18, 19, 32, 33, 34, 35, 36, 37, 38, 39, 40, 41] (by decide +kernel) (by decide +kernel)
set_option maxRecDepth 20000 in
theorem gX1_errorAt_X3_bentOf : GoodIn wsX1_errorAt (wsV RX1 41 RX3 yX3_bentOf wsX3_bentOf) := goodIn_app (goodIn_of _ (by decide +kernel)) ggX1_errorAt_X3_bentOf
theorem dX1_errorAt_0 : decode cX1_errorAt 0 = .ok (.aload_n 0, 1) := by decide +kernel
theorem dX1_errorAt_1 : decode cX1_errorAt 1 = .ok (.getfield 19, 3) := by decide +kernel
theorem dX1_errorAt_4 : decode cX1_errorAt 4 = .ok (.getfield 34, 3) := by decide +kernel
theorem dX1_errorAt_7 : decode cX1_errorAt 7 = .ok (.aload_n 0, 1) := by decide +kernel
theorem dX1_errorAt_8 : decode cX1_errorAt 8 = .ok (.getfield 15, 3) := by decide +kernel
theorem dX1_errorAt_11 : decode cX1_errorAt 11 = .ok (.iload_n 1, 1) := by decide +kernel
theorem dX1_errorAt_12 : decode cX1_errorAt 12 = .ok (.invokevirtual 37, 3) := by decide +kernel
theorem dX1_errorAt_15 : decode cX1_errorAt 15 = .ok (.iadd, 1) := by decide +kernel
theorem dX1_errorAt_16 : decode cX1_errorAt 16 = .ok (.aload_n 0, 1) := by decide +kernel
theorem dX1_errorAt_17 : decode cX1_errorAt 17 = .ok (.getfield 15, 3) := by decide +kernel
theorem dX1_errorAt_20 : decode cX1_errorAt 20 = .ok (.iload_n 2, 1) := by decide +kernel
theorem dX1_errorAt_21 : decode cX1_errorAt 21 = .ok (.invokevirtual 41, 3) := by decide +kernel
theorem dX1_errorAt_24 : decode cX1_errorAt 24 = .ok (.iadd, 1) := by decide +kernel
theorem dX1_errorAt_25 : decode cX1_errorAt 25 = .ok (.aload_n 0, 1) := by decide +kernel
theorem dX1_errorAt_26 : decode cX1_errorAt 26 = .ok (.getfield 19, 3) := by decide +kernel
theorem dX1_errorAt_29 : decode cX1_errorAt 29 = .ok (.getfield 44, 3) := by decide +kernel
theorem dX1_errorAt_32 : decode cX1_errorAt 32 = .ok (.isub, 1) := by decide +kernel
theorem dX1_errorAt_33 : decode cX1_errorAt 33 = .ok (.ireturn, 1) := by decide +kernel
set_option maxRecDepth 20000 in
theorem ggX1_offBy_X1_leaderBy : GoodIn wsX1_offBy wsX1_leaderBy := goodIn_r _ [6] (by decide +kernel) (by decide +kernel)
set_option maxRecDepth 20000 in
theorem gX1_offBy_X1_leaderBy : GoodIn wsX1_offBy (wsV RX1 47 RX1 yX1_leaderBy wsX1_leaderBy) := goodIn_app (goodIn_of _ (by decide +kernel)) ggX1_offBy_X1_leaderBy
set_option maxRecDepth 20000 in
theorem ggX1_offBy_X1_errorAt : GoodIn wsX1_offBy wsX1_errorAt := goodIn_r _ [10, 1, 11, 12, 13, 14, 15, 16, 17, 18, 19, 20, 21, 22, 23, 24, 25, 26, 27, 28, 29, 30, 31, 32, 33, 34, 35, 36, 37, 38, 39, 40, 41, 42, 43, 44, 45, 46, 47, 48, 49, 50] (by decide +kernel) (by decide +kernel)
set_option maxRecDepth 20000 in
theorem gX1_offBy_X1_errorAt : GoodIn wsX1_offBy (wsV RX1 51 RX1 yX1_errorAt wsX1_errorAt) := goodIn_app (goodIn_of _ (by decide +kernel)) ggX1_offBy_X1_errorAt
theorem dX1_offBy_0 : decode cX1_offBy 0 = .ok (.iconst 0, 1) := by decide +kernel
theorem dX1_offBy_1 : decode cX1_offBy 1 = .ok (.istore_n 3, 1) := by decide +kernel
theorem dX1_offBy_2 : decode cX1_offBy 2 = .ok (.aload_n 0, 1) := by decide +kernel
theorem dX1_offBy_3 : decode cX1_offBy 3 = .ok (.getfield 19, 3) := by decide +kernel
theorem dX1_offBy_6 : decode cX1_offBy 6 = .ok (.getfield 29, 3) := by decide +kernel
theorem dX1_offBy_9 : decode cX1_offBy 9 = .ok (.istore 4, 2) := by decide +kernel
theorem dX1_offBy_11 : decode cX1_offBy 11 = .ok (.iload 4, 2) := by decide +kernel
theorem dX1_offBy_13 : decode cX1_offBy 13 = .ok (.aload_n 0, 1) := by decide +kernel
theorem dX1_offBy_14 : decode cX1_offBy 14 = .ok (.getfield 19, 3) := by decide +kernel
theorem dX1_offBy_17 : decode cX1_offBy 17 = .ok (.getfield 29, 3) := by decide +kernel
theorem dX1_offBy_20 : decode cX1_offBy 20 = .ok (.iload_n 1, 1) := by decide +kernel
theorem dX1_offBy_21 : decode cX1_offBy 21 = .ok (.iadd, 1) := by decide +kernel
theorem dX1_offBy_22 : decode cX1_offBy 22 = .ok (.if_icmp .ge 25, 3) := by decide +kernel
theorem dX1_offBy_25 : decode cX1_offBy 25 = .ok (.iload_n 3, 1) := by decide +kernel
theorem dX1_offBy_26 : decode cX1_offBy 26 = .ok (.aload_n 0, 1) := by decide +kernel
theorem dX1_offBy_27 : decode cX1_offBy 27 = .ok (.iload 4, 2) := by decide +kernel
theorem dX1_offBy_29 : decode cX1_offBy 29 = .ok (.aload_n 0, 1) := by decide +kernel
theorem dX1_offBy_30 : decode cX1_offBy 30 = .ok (.iload_n 2, 1) := by decide +kernel
theorem dX1_offBy_31 : decode cX1_offBy 31 = .ok (.iload 4, 2) := by decide +kernel
theorem dX1_offBy_33 : decode cX1_offBy 33 = .ok (.invokevirtual 47, 3) := by decide +kernel
theorem dX1_offBy_36 : decode cX1_offBy 36 = .ok (.invokevirtual 51, 3) := by decide +kernel
theorem dX1_offBy_39 : decode cX1_offBy 39 = .ok (.iadd, 1) := by decide +kernel
theorem dX1_offBy_40 : decode cX1_offBy 40 = .ok (.istore_n 3, 1) := by decide +kernel
theorem dX1_offBy_41 : decode cX1_offBy 41 = .ok (.iinc 4 1, 3) := by decide +kernel
theorem dX1_offBy_44 : decode cX1_offBy 44 = .ok (.goto (-33), 3) := by decide +kernel
theorem dX1_offBy_47 : decode cX1_offBy 47 = .ok (.iload_n 3, 1) := by decide +kernel
theorem dX1_offBy_48 : decode cX1_offBy 48 = .ok (.ireturn, 1) := by decide +kernel
theorem dX1_planByTurns_0 : decode cX1_planByTurns 0 = .ok (.iconst 0, 1) := by decide +kernel
theorem dX1_planByTurns_1 : decode cX1_planByTurns 1 = .ok (.istore_n 2, 1) := by decide +kernel
theorem dX1_planByTurns_2 : decode cX1_planByTurns 2 = .ok (.aload_n 0, 1) := by decide +kernel
theorem dX1_planByTurns_3 : decode cX1_planByTurns 3 = .ok (.getfield 19, 3) := by decide +kernel
theorem dX1_planByTurns_6 : decode cX1_planByTurns 6 = .ok (.getfield 54, 3) := by decide +kernel
theorem dX1_planByTurns_9 : decode cX1_planByTurns 9 = .ok (.istore_n 3, 1) := by decide +kernel
theorem dX1_planByTurns_10 : decode cX1_planByTurns 10 = .ok (.aload_n 0, 1) := by decide +kernel
theorem dX1_planByTurns_11 : decode cX1_planByTurns 11 = .ok (.getfield 19, 3) := by decide +kernel
theorem dX1_planByTurns_14 : decode cX1_planByTurns 14 = .ok (.getfield 29, 3) := by decide +kernel
theorem dX1_planByTurns_17 : decode cX1_planByTurns 17 = .ok (.istore 4, 2) := by decide +kernel
theorem dX1_planByTurns_19 : decode cX1_planByTurns 19 = .ok (.iload 4, 2) := by decide +kernel
theorem dX1_planByTurns_21 : decode cX1_planByTurns 21 = .ok (.aload_n 0, 1) := by decide +kernel
theorem dX1_planByTurns_22 : decode cX1_planByTurns 22 = .ok (.getfield 19, 3) := by decide +kernel
theorem dX1_planByTurns_25 : decode cX1_planByTurns 25 = .ok (.getfield 29, 3) := by decide +kernel
theorem dX1_planByTurns_28 : decode cX1_planByTurns 28 = .ok (.iload_n 1, 1) := by decide +kernel
theorem dX1_planByTurns_29 : decode cX1_planByTurns 29 = .ok (.iadd, 1) := by decide +kernel
theorem dX1_planByTurns_30 : decode cX1_planByTurns 30 = .ok (.if_icmp .ge 20, 3) := by decide +kernel
theorem dX1_planByTurns_33 : decode cX1_planByTurns 33 = .ok (.iload_n 2, 1) := by decide +kernel
theorem dX1_planByTurns_34 : decode cX1_planByTurns 34 = .ok (.iload_n 3, 1) := by decide +kernel
theorem dX1_planByTurns_35 : decode cX1_planByTurns 35 = .ok (.iload 4, 2) := by decide +kernel
theorem dX1_planByTurns_37 : decode cX1_planByTurns 37 = .ok (.ishl, 1) := by decide +kernel
theorem dX1_planByTurns_38 : decode cX1_planByTurns 38 = .ok (.ior, 1) := by decide +kernel
theorem dX1_planByTurns_39 : decode cX1_planByTurns 39 = .ok (.istore_n 2, 1) := by decide +kernel
theorem dX1_planByTurns_40 : decode cX1_planByTurns 40 = .ok (.iconst 1, 1) := by decide +kernel
theorem dX1_planByTurns_41 : decode cX1_planByTurns 41 = .ok (.iload_n 3, 1) := by decide +kernel
theorem dX1_planByTurns_42 : decode cX1_planByTurns 42 = .ok (.isub, 1) := by decide +kernel
theorem dX1_planByTurns_43 : decode cX1_planByTurns 43 = .ok (.istore_n 3, 1) := by decide +kernel
theorem dX1_planByTurns_44 : decode cX1_planByTurns 44 = .ok (.iinc 4 1, 3) := by decide +kernel
theorem dX1_planByTurns_47 : decode cX1_planByTurns 47 = .ok (.goto (-28), 3) := by decide +kernel
theorem dX1_planByTurns_50 : decode cX1_planByTurns 50 = .ok (.iload_n 2, 1) := by decide +kernel
theorem dX1_planByTurns_51 : decode cX1_planByTurns 51 = .ok (.ireturn, 1) := by decide +kernel
set_option maxRecDepth 20000 in
theorem ggX1_bestPlan_X1_offBy : GoodIn wsX1_bestPlan wsX1_offBy := goodIn_r _ [11, 6, 12, 13, 14, 10, 15, 16, 17, 18, 19, 1, 20, 21, 22, 23, 24, 25, 26, 27, 28, 29, 30, 31, 32, 33, 34, 35, 36, 48, 49, 50, 51, 52, 53, 54, 55, 56, 57, 58, 59, 60, 61, 62, 63, 64, 65, 66, 67, 68, 69] (by decide +kernel) (by decide +kernel)
set_option maxRecDepth 20000 in
theorem gX1_bestPlan_X1_offBy : GoodIn wsX1_bestPlan (wsV RX1 57 RX1 yX1_offBy wsX1_offBy) := goodIn_app (goodIn_of _ (by decide +kernel)) ggX1_bestPlan_X1_offBy
set_option maxRecDepth 20000 in
theorem ggX1_bestPlan_X3_bentOf : GoodIn wsX1_bestPlan wsX3_bentOf := goodIn_r _ [34, 35, 36, 60, 61, 62, 63, 64, 65, 66, 67, 68, 69] (by decide +kernel) (by decide +kernel)
set_option maxRecDepth 20000 in
theorem gX1_bestPlan_X3_bentOf : GoodIn wsX1_bestPlan (wsV RX1 41 RX3 yX3_bentOf wsX3_bentOf) := goodIn_app (goodIn_of _ (by decide +kernel)) ggX1_bestPlan_X3_bentOf
set_option maxRecDepth 20000 in
theorem ggX1_bestPlan_X1_turnsIn : GoodIn wsX1_bestPlan wsX1_turnsIn := goodIn_r _ [40, 6, 41, 42, 43, 44, 45, 46, 47, 48, 49, 50, 51, 52, 53, 54, 55, 56, 57, 58, 59] (by decide +kernel) (by decide +kernel)
set_option maxRecDepth 20000 in
theorem gX1_bestPlan_X1_turnsIn : GoodIn wsX1_bestPlan (wsV RX1 65 RX1 yX1_turnsIn wsX1_turnsIn) := goodIn_app (goodIn_of _ (by decide +kernel)) ggX1_bestPlan_X1_turnsIn
set_option maxRecDepth 20000 in
theorem ggX1_bestPlan_J6_bitCount_0f7a4 : GoodIn wsX1_bestPlan wsJ6_bitCount_0f7a4 := goodIn_r _ [44, 45, 46, 47] (by decide +kernel) (by decide +kernel)
set_option maxRecDepth 20000 in
theorem gX1_bestPlan_J6_bitCount_0f7a4 : GoodIn wsX1_bestPlan (va_wsS RX1 68 yJ6_bitCount_0f7a4 wsJ6_bitCount_0f7a4) := goodIn_app (goodIn_of _ (by decide +kernel)) ggX1_bestPlan_J6_bitCount_0f7a4
theorem dX1_bestPlan_0 : decode cX1_bestPlan 0 = .ok (.iconst 0, 1) := by decide +kernel
theorem dX1_bestPlan_1 : decode cX1_bestPlan 1 = .ok (.istore_n 2, 1) := by decide +kernel
theorem dX1_bestPlan_2 : decode cX1_bestPlan 2 = .ok (.aload_n 0, 1) := by decide +kernel
theorem dX1_bestPlan_3 : decode cX1_bestPlan 3 = .ok (.iload_n 1, 1) := by decide +kernel
theorem dX1_bestPlan_4 : decode cX1_bestPlan 4 = .ok (.iconst 0, 1) := by decide +kernel
theorem dX1_bestPlan_5 : decode cX1_bestPlan 5 = .ok (.invokevirtual 57, 3) := by decide +kernel
theorem dX1_bestPlan_8 : decode cX1_bestPlan 8 = .ok (.istore_n 3, 1) := by decide +kernel
theorem dX1_bestPlan_9 : decode cX1_bestPlan 9 = .ok (.aload_n 0, 1) := by decide +kernel
theorem dX1_bestPlan_10 : decode cX1_bestPlan 10 = .ok (.getfield 15, 3) := by decide +kernel
theorem dX1_bestPlan_13 : decode cX1_bestPlan 13 = .ok (.iconst 1, 1) := by decide +kernel
theorem dX1_bestPlan_14 : decode cX1_bestPlan 14 = .ok (.invokevirtual 41, 3) := by decide +kernel
theorem dX1_bestPlan_17 : decode cX1_bestPlan 17 = .ok (.aload_n 0, 1) := by decide +kernel
theorem dX1_bestPlan_18 : decode cX1_bestPlan 18 = .ok (.getfield 15, 3) := by decide +kernel
theorem dX1_bestPlan_21 : decode cX1_bestPlan 21 = .ok (.iconst 0, 1) := by decide +kernel
theorem dX1_bestPlan_22 : decode cX1_bestPlan 22 = .ok (.invokevirtual 41, 3) := by decide +kernel
theorem dX1_bestPlan_25 : decode cX1_bestPlan 25 = .ok (.isub, 1) := by decide +kernel
theorem dX1_bestPlan_26 : decode cX1_bestPlan 26 = .ok (.istore 4, 2) := by decide +kernel
theorem dX1_bestPlan_28 : decode cX1_bestPlan 28 = .ok (.iload_n 3, 1) := by decide +kernel
theorem dX1_bestPlan_29 : decode cX1_bestPlan 29 = .ok (.invokestatic 60, 3) := by decide +kernel
theorem dX1_bestPlan_32 : decode cX1_bestPlan 32 = .ok (.istore 5, 2) := by decide +kernel
theorem dX1_bestPlan_34 : decode cX1_bestPlan 34 = .ok (.aload_n 0, 1) := by decide +kernel
theorem dX1_bestPlan_35 : decode cX1_bestPlan 35 = .ok (.iload_n 1, 1) := by decide +kernel
theorem dX1_bestPlan_36 : decode cX1_bestPlan 36 = .ok (.iconst 0, 1) := by decide +kernel
theorem dX1_bestPlan_37 : decode cX1_bestPlan 37 = .ok (.invokevirtual 65, 3) := by decide +kernel
theorem dX1_bestPlan_40 : decode cX1_bestPlan 40 = .ok (.istore 6, 2) := by decide +kernel
theorem dX1_bestPlan_42 : decode cX1_bestPlan 42 = .ok (.iconst 1, 1) := by decide +kernel
theorem dX1_bestPlan_43 : decode cX1_bestPlan 43 = .ok (.istore 7, 2) := by decide +kernel
theorem dX1_bestPlan_45 : decode cX1_bestPlan 45 = .ok (.iload 7, 2) := by decide +kernel
theorem dX1_bestPlan_47 : decode cX1_bestPlan 47 = .ok (.iconst 1, 1) := by decide +kernel
theorem dX1_bestPlan_48 : decode cX1_bestPlan 48 = .ok (.iload_n 1, 1) := by decide +kernel
theorem dX1_bestPlan_49 : decode cX1_bestPlan 49 = .ok (.ishl, 1) := by decide +kernel
theorem dX1_bestPlan_50 : decode cX1_bestPlan 50 = .ok (.if_icmp .ge 73, 3) := by decide +kernel
theorem dX1_bestPlan_53 : decode cX1_bestPlan 53 = .ok (.iload_n 3, 1) := by decide +kernel
theorem dX1_bestPlan_54 : decode cX1_bestPlan 54 = .ok (.iload 7, 2) := by decide +kernel
theorem dX1_bestPlan_56 : decode cX1_bestPlan 56 = .ok (.invokestatic 68, 3) := by decide +kernel
theorem dX1_bestPlan_59 : decode cX1_bestPlan 59 = .ok (.iload 4, 2) := by decide +kernel
theorem dX1_bestPlan_61 : decode cX1_bestPlan 61 = .ok (.imul, 1) := by decide +kernel
theorem dX1_bestPlan_62 : decode cX1_bestPlan 62 = .ok (.iadd, 1) := by decide +kernel
theorem dX1_bestPlan_63 : decode cX1_bestPlan 63 = .ok (.invokestatic 60, 3) := by decide +kernel
theorem dX1_bestPlan_66 : decode cX1_bestPlan 66 = .ok (.istore 8, 2) := by decide +kernel
theorem dX1_bestPlan_68 : decode cX1_bestPlan 68 = .ok (.aload_n 0, 1) := by decide +kernel
theorem dX1_bestPlan_69 : decode cX1_bestPlan 69 = .ok (.iload_n 1, 1) := by decide +kernel
theorem dX1_bestPlan_70 : decode cX1_bestPlan 70 = .ok (.iload 7, 2) := by decide +kernel
theorem dX1_bestPlan_72 : decode cX1_bestPlan 72 = .ok (.invokevirtual 65, 3) := by decide +kernel
theorem dX1_bestPlan_75 : decode cX1_bestPlan 75 = .ok (.istore 9, 2) := by decide +kernel
theorem dX1_bestPlan_77 : decode cX1_bestPlan 77 = .ok (.iload 8, 2) := by decide +kernel
theorem dX1_bestPlan_79 : decode cX1_bestPlan 79 = .ok (.iload 5, 2) := by decide +kernel
theorem dX1_bestPlan_81 : decode cX1_bestPlan 81 = .ok (.if_icmp .lt 17, 3) := by decide +kernel
theorem dX1_bestPlan_84 : decode cX1_bestPlan 84 = .ok (.iload 8, 2) := by decide +kernel
theorem dX1_bestPlan_86 : decode cX1_bestPlan 86 = .ok (.iload 5, 2) := by decide +kernel
theorem dX1_bestPlan_88 : decode cX1_bestPlan 88 = .ok (.if_icmp .ne 29, 3) := by decide +kernel
theorem dX1_bestPlan_91 : decode cX1_bestPlan 91 = .ok (.iload 9, 2) := by decide +kernel
theorem dX1_bestPlan_93 : decode cX1_bestPlan 93 = .ok (.iload 6, 2) := by decide +kernel
theorem dX1_bestPlan_95 : decode cX1_bestPlan 95 = .ok (.if_icmp .ge 22, 3) := by decide +kernel
theorem dX1_bestPlan_98 : decode cX1_bestPlan 98 = .ok (.iload 7, 2) := by decide +kernel
theorem dX1_bestPlan_100 : decode cX1_bestPlan 100 = .ok (.aload_n 0, 1) := by decide +kernel
theorem dX1_bestPlan_101 : decode cX1_bestPlan 101 = .ok (.getfield 19, 3) := by decide +kernel
theorem dX1_bestPlan_104 : decode cX1_bestPlan 104 = .ok (.getfield 29, 3) := by decide +kernel
theorem dX1_bestPlan_107 : decode cX1_bestPlan 107 = .ok (.ishl, 1) := by decide +kernel
theorem dX1_bestPlan_108 : decode cX1_bestPlan 108 = .ok (.istore_n 2, 1) := by decide +kernel
theorem dX1_bestPlan_109 : decode cX1_bestPlan 109 = .ok (.iload 8, 2) := by decide +kernel
theorem dX1_bestPlan_111 : decode cX1_bestPlan 111 = .ok (.istore 5, 2) := by decide +kernel
theorem dX1_bestPlan_113 : decode cX1_bestPlan 113 = .ok (.iload 9, 2) := by decide +kernel
theorem dX1_bestPlan_115 : decode cX1_bestPlan 115 = .ok (.istore 6, 2) := by decide +kernel
theorem dX1_bestPlan_117 : decode cX1_bestPlan 117 = .ok (.iinc 7 1, 3) := by decide +kernel
theorem dX1_bestPlan_120 : decode cX1_bestPlan 120 = .ok (.goto (-75), 3) := by decide +kernel
theorem dX1_bestPlan_123 : decode cX1_bestPlan 123 = .ok (.iload_n 2, 1) := by decide +kernel
theorem dX1_bestPlan_124 : decode cX1_bestPlan 124 = .ok (.ireturn, 1) := by decide +kernel
set_option maxRecDepth 20000 in
theorem ggX1_fewestStepped_X1_offBy : GoodIn wsX1_fewestStepped wsX1_offBy := goodIn_r _ [11, 2, 12, 13, 14, 10, 15, 16, 17, 18, 19, 1, 20, 21, 22, 23, 24, 25, 26, 27, 28, 29, 30, 31, 32, 33, 34, 35, 36, 69, 70, 71, 82, 83, 84, 85, 86, 87, 88, 89, 90, 72, 73, 74, 75, 76, 77, 78, 79, 80, 81] (by decide +kernel) (by decide +kernel)
set_option maxRecDepth 20000 in
theorem gX1_fewestStepped_X1_offBy : GoodIn wsX1_fewestStepped (wsV RX1 57 RX1 yX1_offBy wsX1_offBy) := goodIn_app (goodIn_of _ (by decide +kernel)) ggX1_fewestStepped_X1_offBy
set_option maxRecDepth 20000 in
theorem ggX1_fewestStepped_X1_aslantBits : GoodIn wsX1_fewestStepped wsX1_aslantBits := goodIn_r _ [40, 2, 1, 41, 42, 43, 23, 44, 45, 26, 27, 28, 29, 30, 69, 70, 71, 82, 83, 84, 85, 86, 87, 88, 89, 90, 72, 73, 74, 75, 76, 77, 78, 79, 80, 81] (by decide +kernel) (by decide +kernel)
set_option maxRecDepth 20000 in
theorem gX1_fewestStepped_X1_aslantBits : GoodIn wsX1_fewestStepped (wsV RX1 73 RX1 yX1_aslantBits wsX1_aslantBits) := goodIn_app (goodIn_of _ (by decide +kernel)) ggX1_fewestStepped_X1_aslantBits
set_option maxRecDepth 20000 in
theorem ggX1_fewestStepped_J6_bitCount_0f7a4 : GoodIn wsX1_fewestStepped wsJ6_bitCount_0f7a4 := goodIn_r _ [49, 50, 51, 52] (by decide +kernel) (by decide +kernel)
set_option maxRecDepth 20000 in
theorem gX1_fewestStepped_J6_bitCount_0f7a4 : GoodIn wsX1_fewestStepped (va_wsS RX1 68 yJ6_bitCount_0f7a4 wsJ6_bitCount_0f7a4) := goodIn_app (goodIn_of _ (by decide +kernel)) ggX1_fewestStepped_J6_bitCount_0f7a4
set_option maxRecDepth 20000 in
theorem ggX1_fewestStepped_X1_moreByStepping : GoodIn wsX1_fewestStepped wsX1_moreByStepping := goodIn_r _ [56, 2, 1, 57, 58, 59, 23, 60, 61, 62, 63, 64, 65, 26, 27, 28, 29, 30, 66, 67, 68, 20, 21, 22, 24, 25, 69, 70, 71, 82, 83, 84, 85, 86, 87, 88, 89, 90, 72, 73, 74, 75, 76, 77, 78, 79, 80, 81] (by decide +kernel) (by decide +kernel)
set_option maxRecDepth 20000 in
theorem gX1_fewestStepped_X1_moreByStepping : GoodIn wsX1_fewestStepped (wsV RX1 77 RX1 yX1_moreByStepping wsX1_moreByStepping) := goodIn_app (goodIn_of _ (by decide +kernel)) ggX1_fewestStepped_X1_moreByStepping
theorem dX1_fewestStepped_0 : decode cX1_fewestStepped 0 = .ok (.bipush (-9), 2) := by decide +kernel
theorem dX1_fewestStepped_2 : decode cX1_fewestStepped 2 = .ok (.istore_n 2, 1) := by decide +kernel
theorem dX1_fewestStepped_3 : decode cX1_fewestStepped 3 = .ok (.bipush 9, 2) := by decide +kernel
theorem dX1_fewestStepped_5 : decode cX1_fewestStepped 5 = .ok (.istore_n 3, 1) := by decide +kernel
theorem dX1_fewestStepped_6 : decode cX1_fewestStepped 6 = .ok (.aload_n 0, 1) := by decide +kernel
theorem dX1_fewestStepped_7 : decode cX1_fewestStepped 7 = .ok (.getfield 15, 3) := by decide +kernel
theorem dX1_fewestStepped_10 : decode cX1_fewestStepped 10 = .ok (.getfield 23, 3) := by decide +kernel
theorem dX1_fewestStepped_13 : decode cX1_fewestStepped 13 = .ok (.aload_n 0, 1) := by decide +kernel
theorem dX1_fewestStepped_14 : decode cX1_fewestStepped 14 = .ok (.getfield 19, 3) := by decide +kernel
theorem dX1_fewestStepped_17 : decode cX1_fewestStepped 17 = .ok (.getfield 29, 3) := by decide +kernel
theorem dX1_fewestStepped_20 : decode cX1_fewestStepped 20 = .ok (.isub, 1) := by decide +kernel
theorem dX1_fewestStepped_21 : decode cX1_fewestStepped 21 = .ok (.istore 4, 2) := by decide +kernel
theorem dX1_fewestStepped_23 : decode cX1_fewestStepped 23 = .ok (.aload_n 0, 1) := by decide +kernel
theorem dX1_fewestStepped_24 : decode cX1_fewestStepped 24 = .ok (.iload 4, 2) := by decide +kernel
theorem dX1_fewestStepped_26 : decode cX1_fewestStepped 26 = .ok (.aload_n 0, 1) := by decide +kernel
theorem dX1_fewestStepped_27 : decode cX1_fewestStepped 27 = .ok (.getfield 19, 3) := by decide +kernel
theorem dX1_fewestStepped_30 : decode cX1_fewestStepped 30 = .ok (.getfield 54, 3) := by decide +kernel
theorem dX1_fewestStepped_33 : decode cX1_fewestStepped 33 = .ok (.ifCond .ne 7, 3) := by decide +kernel
theorem dX1_fewestStepped_36 : decode cX1_fewestStepped 36 = .ok (.iconst 0, 1) := by decide +kernel
theorem dX1_fewestStepped_37 : decode cX1_fewestStepped 37 = .ok (.goto 6, 3) := by decide +kernel
theorem dX1_fewestStepped_40 : decode cX1_fewestStepped 40 = .ok (.sipush 255, 3) := by decide +kernel
theorem dX1_fewestStepped_43 : decode cX1_fewestStepped 43 = .ok (.invokevirtual 57, 3) := by decide +kernel
theorem dX1_fewestStepped_46 : decode cX1_fewestStepped 46 = .ok (.istore 5, 2) := by decide +kernel
theorem dX1_fewestStepped_48 : decode cX1_fewestStepped 48 = .ok (.aload_n 0, 1) := by decide +kernel
theorem dX1_fewestStepped_49 : decode cX1_fewestStepped 49 = .ok (.invokevirtual 73, 3) := by decide +kernel
theorem dX1_fewestStepped_52 : decode cX1_fewestStepped 52 = .ok (.istore 6, 2) := by decide +kernel
theorem dX1_fewestStepped_54 : decode cX1_fewestStepped 54 = .ok (.iconst 0, 1) := by decide +kernel
theorem dX1_fewestStepped_55 : decode cX1_fewestStepped 55 = .ok (.istore 7, 2) := by decide +kernel
theorem dX1_fewestStepped_57 : decode cX1_fewestStepped 57 = .ok (.iload 7, 2) := by decide +kernel
theorem dX1_fewestStepped_59 : decode cX1_fewestStepped 59 = .ok (.iconst 1, 1) := by decide +kernel
theorem dX1_fewestStepped_60 : decode cX1_fewestStepped 60 = .ok (.iload 4, 2) := by decide +kernel
theorem dX1_fewestStepped_62 : decode cX1_fewestStepped 62 = .ok (.ishl, 1) := by decide +kernel
theorem dX1_fewestStepped_63 : decode cX1_fewestStepped 63 = .ok (.if_icmp .ge 77, 3) := by decide +kernel
theorem dX1_fewestStepped_66 : decode cX1_fewestStepped 66 = .ok (.iload 7, 2) := by decide +kernel
theorem dX1_fewestStepped_68 : decode cX1_fewestStepped 68 = .ok (.aload_n 0, 1) := by decide +kernel
theorem dX1_fewestStepped_69 : decode cX1_fewestStepped 69 = .ok (.getfield 19, 3) := by decide +kernel
theorem dX1_fewestStepped_72 : decode cX1_fewestStepped 72 = .ok (.getfield 29, 3) := by decide +kernel
theorem dX1_fewestStepped_75 : decode cX1_fewestStepped 75 = .ok (.ishl, 1) := by decide +kernel
theorem dX1_fewestStepped_76 : decode cX1_fewestStepped 76 = .ok (.istore 8, 2) := by decide +kernel
theorem dX1_fewestStepped_78 : decode cX1_fewestStepped 78 = .ok (.iload 8, 2) := by decide +kernel
theorem dX1_fewestStepped_80 : decode cX1_fewestStepped 80 = .ok (.iload 6, 2) := by decide +kernel
theorem dX1_fewestStepped_82 : decode cX1_fewestStepped 82 = .ok (.iconst (-1), 1) := by decide +kernel
theorem dX1_fewestStepped_83 : decode cX1_fewestStepped 83 = .ok (.ixor, 1) := by decide +kernel
theorem dX1_fewestStepped_84 : decode cX1_fewestStepped 84 = .ok (.iand, 1) := by decide +kernel
theorem dX1_fewestStepped_85 : decode cX1_fewestStepped 85 = .ok (.ifCond .ne 16, 3) := by decide +kernel
theorem dX1_fewestStepped_88 : decode cX1_fewestStepped 88 = .ok (.iload 8, 2) := by decide +kernel
theorem dX1_fewestStepped_90 : decode cX1_fewestStepped 90 = .ok (.invokestatic 68, 3) := by decide +kernel
theorem dX1_fewestStepped_93 : decode cX1_fewestStepped 93 = .ok (.iload_n 3, 1) := by decide +kernel
theorem dX1_fewestStepped_94 : decode cX1_fewestStepped 94 = .ok (.if_icmp .ge 7, 3) := by decide +kernel
theorem dX1_fewestStepped_97 : decode cX1_fewestStepped 97 = .ok (.iconst 1, 1) := by decide +kernel
theorem dX1_fewestStepped_98 : decode cX1_fewestStepped 98 = .ok (.goto 4, 3) := by decide +kernel
theorem dX1_fewestStepped_101 : decode cX1_fewestStepped 101 = .ok (.iconst 0, 1) := by decide +kernel
theorem dX1_fewestStepped_102 : decode cX1_fewestStepped 102 = .ok (.istore 9, 2) := by decide +kernel
theorem dX1_fewestStepped_104 : decode cX1_fewestStepped 104 = .ok (.iload 9, 2) := by decide +kernel
theorem dX1_fewestStepped_106 : decode cX1_fewestStepped 106 = .ok (.ifCond .eq 28, 3) := by decide +kernel
theorem dX1_fewestStepped_109 : decode cX1_fewestStepped 109 = .ok (.iload 5, 2) := by decide +kernel
theorem dX1_fewestStepped_111 : decode cX1_fewestStepped 111 = .ok (.aload_n 0, 1) := by decide +kernel
theorem dX1_fewestStepped_112 : decode cX1_fewestStepped 112 = .ok (.iload 8, 2) := by decide +kernel
theorem dX1_fewestStepped_114 : decode cX1_fewestStepped 114 = .ok (.invokevirtual 77, 3) := by decide +kernel
theorem dX1_fewestStepped_117 : decode cX1_fewestStepped 117 = .ok (.iadd, 1) := by decide +kernel
theorem dX1_fewestStepped_118 : decode cX1_fewestStepped 118 = .ok (.invokestatic 60, 3) := by decide +kernel
theorem dX1_fewestStepped_121 : decode cX1_fewestStepped 121 = .ok (.iload_n 1, 1) := by decide +kernel
theorem dX1_fewestStepped_122 : decode cX1_fewestStepped 122 = .ok (.if_icmp .gt 12, 3) := by decide +kernel
theorem dX1_fewestStepped_125 : decode cX1_fewestStepped 125 = .ok (.iload 8, 2) := by decide +kernel
theorem dX1_fewestStepped_127 : decode cX1_fewestStepped 127 = .ok (.istore_n 2, 1) := by decide +kernel
theorem dX1_fewestStepped_128 : decode cX1_fewestStepped 128 = .ok (.iload 8, 2) := by decide +kernel
theorem dX1_fewestStepped_130 : decode cX1_fewestStepped 130 = .ok (.invokestatic 68, 3) := by decide +kernel
theorem dX1_fewestStepped_133 : decode cX1_fewestStepped 133 = .ok (.istore_n 3, 1) := by decide +kernel
theorem dX1_fewestStepped_134 : decode cX1_fewestStepped 134 = .ok (.iinc 7 1, 3) := by decide +kernel
theorem dX1_fewestStepped_137 : decode cX1_fewestStepped 137 = .ok (.goto (-80), 3) := by decide +kernel
theorem dX1_fewestStepped_140 : decode cX1_fewestStepped 140 = .ok (.iload_n 2, 1) := by decide +kernel
theorem dX1_fewestStepped_141 : decode cX1_fewestStepped 141 = .ok (.ireturn, 1) := by decide +kernel
set_option maxRecDepth 20000 in
theorem ggX1_shareIn24ths_X1_madeBy : GoodIn wsX1_shareIn24ths wsX1_madeBy := goodIn_r _ [5, 6, 7, 8, 9, 10, 11, 12, 4, 13, 14, 15, 16, 17, 18, 19, 20, 21, 22, 23, 24, 25, 26, 27, 28, 29, 30, 31, 32, 33, 34, 35, 36, 47, 48, 49, 50, 51, 52, 53, 54, 55, 56, 57, 58, 59, 60, 61, 62, 63, 64, 65, 66, 67, 68] (by decide +kernel) (by decide +kernel)
set_option maxRecDepth 20000 in
theorem gX1_shareIn24ths_X1_madeBy : GoodIn wsX1_shareIn24ths (wsV RX1 80 RX1 yX1_madeBy wsX1_madeBy) := goodIn_app (goodIn_of _ (by decide +kernel)) ggX1_shareIn24ths_X1_madeBy
set_option maxRecDepth 20000 in
theorem ggX1_shareIn24ths_J6_bitCount_0f7a4 : GoodIn wsX1_shareIn24ths wsJ6_bitCount_0f7a4 := goodIn_r _ [40, 41, 42, 43] (by decide +kernel) (by decide +kernel)
set_option maxRecDepth 20000 in
theorem gX1_shareIn24ths_J6_bitCount_0f7a4 : GoodIn wsX1_shareIn24ths (va_wsS RX1 68 yJ6_bitCount_0f7a4 wsJ6_bitCount_0f7a4) := goodIn_app (goodIn_of _ (by decide +kernel)) ggX1_shareIn24ths_J6_bitCount_0f7a4
set_option maxRecDepth 20000 in
theorem ggX1_shareIn24ths_X1_ordersAround : GoodIn wsX1_shareIn24ths wsX1_ordersAround := goodIn_r _ [46] (by decide +kernel) (by decide +kernel)
set_option maxRecDepth 20000 in
theorem gX1_shareIn24ths_X1_ordersAround : GoodIn wsX1_shareIn24ths (va_wsS RX1 83 yX1_ordersAround wsX1_ordersAround) := goodIn_app (goodIn_of _ (by decide +kernel)) ggX1_shareIn24ths_X1_ordersAround
theorem dX1_shareIn24ths_0 : decode cX1_shareIn24ths 0 = .ok (.iconst 0, 1) := by decide +kernel
theorem dX1_shareIn24ths_1 : decode cX1_shareIn24ths 1 = .ok (.istore_n 3, 1) := by decide +kernel
theorem dX1_shareIn24ths_2 : decode cX1_shareIn24ths 2 = .ok (.iconst 0, 1) := by decide +kernel
theorem dX1_shareIn24ths_3 : decode cX1_shareIn24ths 3 = .ok (.istore 4, 2) := by decide +kernel
theorem dX1_shareIn24ths_5 : decode cX1_shareIn24ths 5 = .ok (.iload 4, 2) := by decide +kernel
theorem dX1_shareIn24ths_7 : decode cX1_shareIn24ths 7 = .ok (.bipush 16, 2) := by decide +kernel
theorem dX1_shareIn24ths_9 : decode cX1_shareIn24ths 9 = .ok (.if_icmp .ge 53, 3) := by decide +kernel
theorem dX1_shareIn24ths_12 : decode cX1_shareIn24ths 12 = .ok (.iload 4, 2) := by decide +kernel
theorem dX1_shareIn24ths_14 : decode cX1_shareIn24ths 14 = .ok (.iload_n 1, 1) := by decide +kernel
theorem dX1_shareIn24ths_15 : decode cX1_shareIn24ths 15 = .ok (.ishr, 1) := by decide +kernel
theorem dX1_shareIn24ths_16 : decode cX1_shareIn24ths 16 = .ok (.iconst 1, 1) := by decide +kernel
theorem dX1_shareIn24ths_17 : decode cX1_shareIn24ths 17 = .ok (.iand, 1) := by decide +kernel
theorem dX1_shareIn24ths_18 : decode cX1_shareIn24ths 18 = .ok (.ifCond .ne 38, 3) := by decide +kernel
theorem dX1_shareIn24ths_21 : decode cX1_shareIn24ths 21 = .ok (.aload_n 0, 1) := by decide +kernel
theorem dX1_shareIn24ths_22 : decode cX1_shareIn24ths 22 = .ok (.iload 4, 2) := by decide +kernel
theorem dX1_shareIn24ths_24 : decode cX1_shareIn24ths 24 = .ok (.iconst 1, 1) := by decide +kernel
theorem dX1_shareIn24ths_25 : decode cX1_shareIn24ths 25 = .ok (.iload_n 1, 1) := by decide +kernel
theorem dX1_shareIn24ths_26 : decode cX1_shareIn24ths 26 = .ok (.ishl, 1) := by decide +kernel
theorem dX1_shareIn24ths_27 : decode cX1_shareIn24ths 27 = .ok (.ior, 1) := by decide +kernel
theorem dX1_shareIn24ths_28 : decode cX1_shareIn24ths 28 = .ok (.iload_n 2, 1) := by decide +kernel
theorem dX1_shareIn24ths_29 : decode cX1_shareIn24ths 29 = .ok (.invokevirtual 80, 3) := by decide +kernel
theorem dX1_shareIn24ths_32 : decode cX1_shareIn24ths 32 = .ok (.aload_n 0, 1) := by decide +kernel
theorem dX1_shareIn24ths_33 : decode cX1_shareIn24ths 33 = .ok (.iload 4, 2) := by decide +kernel
theorem dX1_shareIn24ths_35 : decode cX1_shareIn24ths 35 = .ok (.iload_n 2, 1) := by decide +kernel
theorem dX1_shareIn24ths_36 : decode cX1_shareIn24ths 36 = .ok (.invokevirtual 80, 3) := by decide +kernel
theorem dX1_shareIn24ths_39 : decode cX1_shareIn24ths 39 = .ok (.isub, 1) := by decide +kernel
theorem dX1_shareIn24ths_40 : decode cX1_shareIn24ths 40 = .ok (.istore 5, 2) := by decide +kernel
theorem dX1_shareIn24ths_42 : decode cX1_shareIn24ths 42 = .ok (.iload_n 3, 1) := by decide +kernel
theorem dX1_shareIn24ths_43 : decode cX1_shareIn24ths 43 = .ok (.iload 4, 2) := by decide +kernel
theorem dX1_shareIn24ths_45 : decode cX1_shareIn24ths 45 = .ok (.invokestatic 68, 3) := by decide +kernel
theorem dX1_shareIn24ths_48 : decode cX1_shareIn24ths 48 = .ok (.invokestatic 83, 3) := by decide +kernel
theorem dX1_shareIn24ths_51 : decode cX1_shareIn24ths 51 = .ok (.iload 5, 2) := by decide +kernel
theorem dX1_shareIn24ths_53 : decode cX1_shareIn24ths 53 = .ok (.imul, 1) := by decide +kernel
theorem dX1_shareIn24ths_54 : decode cX1_shareIn24ths 54 = .ok (.iadd, 1) := by decide +kernel
theorem dX1_shareIn24ths_55 : decode cX1_shareIn24ths 55 = .ok (.istore_n 3, 1) := by decide +kernel
theorem dX1_shareIn24ths_56 : decode cX1_shareIn24ths 56 = .ok (.iinc 4 1, 3) := by decide +kernel
theorem dX1_shareIn24ths_59 : decode cX1_shareIn24ths 59 = .ok (.goto (-54), 3) := by decide +kernel
theorem dX1_shareIn24ths_62 : decode cX1_shareIn24ths 62 = .ok (.iload_n 3, 1) := by decide +kernel
theorem dX1_shareIn24ths_63 : decode cX1_shareIn24ths 63 = .ok (.ireturn, 1) := by decide +kernel
set_option maxRecDepth 20000 in
theorem ggX1_waysToLose_X3_gorseOf : GoodIn wsX1_waysToLose wsX3_gorseOf := goodIn_r _ [8, 9, 10, 11, 12, 7, 13, 14, 27, 28, 29, 30, 31, 32, 33, 34, 35, 36] (by decide +kernel) (by decide +kernel)
set_option maxRecDepth 20000 in
theorem gX1_waysToLose_X3_gorseOf : GoodIn wsX1_waysToLose (wsV RX1 86 RX3 yX3_gorseOf wsX3_gorseOf) := goodIn_app (goodIn_of _ (by decide +kernel)) ggX1_waysToLose_X3_gorseOf
theorem dX1_waysToLose_0 : decode cX1_waysToLose 0 = .ok (.iconst 0, 1) := by decide +kernel
theorem dX1_waysToLose_1 : decode cX1_waysToLose 1 = .ok (.istore_n 3, 1) := by decide +kernel
theorem dX1_waysToLose_2 : decode cX1_waysToLose 2 = .ok (.iload_n 3, 1) := by decide +kernel
theorem dX1_waysToLose_3 : decode cX1_waysToLose 3 = .ok (.bipush 6, 2) := by decide +kernel
theorem dX1_waysToLose_5 : decode cX1_waysToLose 5 = .ok (.if_icmp .gt 24, 3) := by decide +kernel
theorem dX1_waysToLose_8 : decode cX1_waysToLose 8 = .ok (.aload_n 0, 1) := by decide +kernel
theorem dX1_waysToLose_9 : decode cX1_waysToLose 9 = .ok (.getfield 9, 3) := by decide +kernel
theorem dX1_waysToLose_12 : decode cX1_waysToLose 12 = .ok (.iload_n 3, 1) := by decide +kernel
theorem dX1_waysToLose_13 : decode cX1_waysToLose 13 = .ok (.iload_n 3, 1) := by decide +kernel
theorem dX1_waysToLose_14 : decode cX1_waysToLose 14 = .ok (.ifCond .ne 7, 3) := by decide +kernel
theorem dX1_waysToLose_17 : decode cX1_waysToLose 17 = .ok (.iconst 1, 1) := by decide +kernel
theorem dX1_waysToLose_18 : decode cX1_waysToLose 18 = .ok (.goto 4, 3) := by decide +kernel
theorem dX1_waysToLose_21 : decode cX1_waysToLose 21 = .ok (.iconst 0, 1) := by decide +kernel
theorem dX1_waysToLose_22 : decode cX1_waysToLose 22 = .ok (.iastore, 1) := by decide +kernel
theorem dX1_waysToLose_23 : decode cX1_waysToLose 23 = .ok (.iinc 3 1, 3) := by decide +kernel
theorem dX1_waysToLose_26 : decode cX1_waysToLose 26 = .ok (.goto (-24), 3) := by decide +kernel
theorem dX1_waysToLose_29 : decode cX1_waysToLose 29 = .ok (.aload_n 0, 1) := by decide +kernel
theorem dX1_waysToLose_30 : decode cX1_waysToLose 30 = .ok (.getfield 19, 3) := by decide +kernel
theorem dX1_waysToLose_33 : decode cX1_waysToLose 33 = .ok (.getfield 29, 3) := by decide +kernel
theorem dX1_waysToLose_36 : decode cX1_waysToLose 36 = .ok (.istore_n 3, 1) := by decide +kernel
theorem dX1_waysToLose_37 : decode cX1_waysToLose 37 = .ok (.iload_n 3, 1) := by decide +kernel
theorem dX1_waysToLose_38 : decode cX1_waysToLose 38 = .ok (.aload_n 0, 1) := by decide +kernel
theorem dX1_waysToLose_39 : decode cX1_waysToLose 39 = .ok (.getfield 19, 3) := by decide +kernel
theorem dX1_waysToLose_42 : decode cX1_waysToLose 42 = .ok (.getfield 29, 3) := by decide +kernel
theorem dX1_waysToLose_45 : decode cX1_waysToLose 45 = .ok (.iload_n 1, 1) := by decide +kernel
theorem dX1_waysToLose_46 : decode cX1_waysToLose 46 = .ok (.iadd, 1) := by decide +kernel
theorem dX1_waysToLose_47 : decode cX1_waysToLose 47 = .ok (.if_icmp .ge 82, 3) := by decide +kernel
theorem dX1_waysToLose_50 : decode cX1_waysToLose 50 = .ok (.aload_n 0, 1) := by decide +kernel
theorem dX1_waysToLose_51 : decode cX1_waysToLose 51 = .ok (.getfield 15, 3) := by decide +kernel
theorem dX1_waysToLose_54 : decode cX1_waysToLose 54 = .ok (.iload_n 3, 1) := by decide +kernel
theorem dX1_waysToLose_55 : decode cX1_waysToLose 55 = .ok (.invokevirtual 86, 3) := by decide +kernel
theorem dX1_waysToLose_58 : decode cX1_waysToLose 58 = .ok (.istore 4, 2) := by decide +kernel
theorem dX1_waysToLose_60 : decode cX1_waysToLose 60 = .ok (.bipush 6, 2) := by decide +kernel
theorem dX1_waysToLose_62 : decode cX1_waysToLose 62 = .ok (.istore 5, 2) := by decide +kernel
theorem dX1_waysToLose_64 : decode cX1_waysToLose 64 = .ok (.iload 5, 2) := by decide +kernel
theorem dX1_waysToLose_66 : decode cX1_waysToLose 66 = .ok (.iconst 1, 1) := by decide +kernel
theorem dX1_waysToLose_67 : decode cX1_waysToLose 67 = .ok (.if_icmp .lt 42, 3) := by decide +kernel
theorem dX1_waysToLose_70 : decode cX1_waysToLose 70 = .ok (.aload_n 0, 1) := by decide +kernel
theorem dX1_waysToLose_71 : decode cX1_waysToLose 71 = .ok (.getfield 9, 3) := by decide +kernel
theorem dX1_waysToLose_74 : decode cX1_waysToLose 74 = .ok (.iload 5, 2) := by decide +kernel
theorem dX1_waysToLose_76 : decode cX1_waysToLose 76 = .ok (.aload_n 0, 1) := by decide +kernel
theorem dX1_waysToLose_77 : decode cX1_waysToLose 77 = .ok (.getfield 9, 3) := by decide +kernel
theorem dX1_waysToLose_80 : decode cX1_waysToLose 80 = .ok (.iload 5, 2) := by decide +kernel
theorem dX1_waysToLose_82 : decode cX1_waysToLose 82 = .ok (.iaload, 1) := by decide +kernel
theorem dX1_waysToLose_83 : decode cX1_waysToLose 83 = .ok (.bipush 10, 2) := by decide +kernel
theorem dX1_waysToLose_85 : decode cX1_waysToLose 85 = .ok (.iload 4, 2) := by decide +kernel
theorem dX1_waysToLose_87 : decode cX1_waysToLose 87 = .ok (.isub, 1) := by decide +kernel
theorem dX1_waysToLose_88 : decode cX1_waysToLose 88 = .ok (.imul, 1) := by decide +kernel
theorem dX1_waysToLose_89 : decode cX1_waysToLose 89 = .ok (.aload_n 0, 1) := by decide +kernel
theorem dX1_waysToLose_90 : decode cX1_waysToLose 90 = .ok (.getfield 9, 3) := by decide +kernel
theorem dX1_waysToLose_93 : decode cX1_waysToLose 93 = .ok (.iload 5, 2) := by decide +kernel
theorem dX1_waysToLose_95 : decode cX1_waysToLose 95 = .ok (.iconst 1, 1) := by decide +kernel
theorem dX1_waysToLose_96 : decode cX1_waysToLose 96 = .ok (.isub, 1) := by decide +kernel
theorem dX1_waysToLose_97 : decode cX1_waysToLose 97 = .ok (.iaload, 1) := by decide +kernel
theorem dX1_waysToLose_98 : decode cX1_waysToLose 98 = .ok (.iload 4, 2) := by decide +kernel
theorem dX1_waysToLose_100 : decode cX1_waysToLose 100 = .ok (.imul, 1) := by decide +kernel
theorem dX1_waysToLose_101 : decode cX1_waysToLose 101 = .ok (.iadd, 1) := by decide +kernel
theorem dX1_waysToLose_102 : decode cX1_waysToLose 102 = .ok (.iastore, 1) := by decide +kernel
theorem dX1_waysToLose_103 : decode cX1_waysToLose 103 = .ok (.iinc 5 (-1), 3) := by decide +kernel
theorem dX1_waysToLose_106 : decode cX1_waysToLose 106 = .ok (.goto (-42), 3) := by decide +kernel
theorem dX1_waysToLose_109 : decode cX1_waysToLose 109 = .ok (.aload_n 0, 1) := by decide +kernel
theorem dX1_waysToLose_110 : decode cX1_waysToLose 110 = .ok (.getfield 9, 3) := by decide +kernel
theorem dX1_waysToLose_113 : decode cX1_waysToLose 113 = .ok (.iconst 0, 1) := by decide +kernel
theorem dX1_waysToLose_114 : decode cX1_waysToLose 114 = .ok (.dup2, 1) := by decide +kernel
theorem dX1_waysToLose_115 : decode cX1_waysToLose 115 = .ok (.iaload, 1) := by decide +kernel
theorem dX1_waysToLose_116 : decode cX1_waysToLose 116 = .ok (.bipush 10, 2) := by decide +kernel
theorem dX1_waysToLose_118 : decode cX1_waysToLose 118 = .ok (.iload 4, 2) := by decide +kernel
theorem dX1_waysToLose_120 : decode cX1_waysToLose 120 = .ok (.isub, 1) := by decide +kernel
theorem dX1_waysToLose_121 : decode cX1_waysToLose 121 = .ok (.imul, 1) := by decide +kernel
theorem dX1_waysToLose_122 : decode cX1_waysToLose 122 = .ok (.iastore, 1) := by decide +kernel
theorem dX1_waysToLose_123 : decode cX1_waysToLose 123 = .ok (.iinc 3 1, 3) := by decide +kernel
theorem dX1_waysToLose_126 : decode cX1_waysToLose 126 = .ok (.goto (-89), 3) := by decide +kernel
theorem dX1_waysToLose_129 : decode cX1_waysToLose 129 = .ok (.iload_n 2, 1) := by decide +kernel
theorem dX1_waysToLose_130 : decode cX1_waysToLose 130 = .ok (.ifCond .lt 18, 3) := by decide +kernel
theorem dX1_waysToLose_133 : decode cX1_waysToLose 133 = .ok (.iload_n 2, 1) := by decide +kernel
theorem dX1_waysToLose_134 : decode cX1_waysToLose 134 = .ok (.bipush 6, 2) := by decide +kernel
theorem dX1_waysToLose_136 : decode cX1_waysToLose 136 = .ok (.if_icmp .gt 12, 3) := by decide +kernel
theorem dX1_waysToLose_139 : decode cX1_waysToLose 139 = .ok (.aload_n 0, 1) := by decide +kernel
theorem dX1_waysToLose_140 : decode cX1_waysToLose 140 = .ok (.getfield 9, 3) := by decide +kernel
theorem dX1_waysToLose_143 : decode cX1_waysToLose 143 = .ok (.iload_n 2, 1) := by decide +kernel
theorem dX1_waysToLose_144 : decode cX1_waysToLose 144 = .ok (.iaload, 1) := by decide +kernel
theorem dX1_waysToLose_145 : decode cX1_waysToLose 145 = .ok (.goto 4, 3) := by decide +kernel
theorem dX1_waysToLose_148 : decode cX1_waysToLose 148 = .ok (.iconst 0, 1) := by decide +kernel
theorem dX1_waysToLose_149 : decode cX1_waysToLose 149 = .ok (.ireturn, 1) := by decide +kernel
theorem dX1_leaderBy_0 : decode cX1_leaderBy 0 = .ok (.iload_n 1, 1) := by decide +kernel
theorem dX1_leaderBy_1 : decode cX1_leaderBy 1 = .ok (.iload_n 2, 1) := by decide +kernel
theorem dX1_leaderBy_2 : decode cX1_leaderBy 2 = .ok (.ishr, 1) := by decide +kernel
theorem dX1_leaderBy_3 : decode cX1_leaderBy 3 = .ok (.iconst 1, 1) := by decide +kernel
theorem dX1_leaderBy_4 : decode cX1_leaderBy 4 = .ok (.iand, 1) := by decide +kernel
theorem dX1_leaderBy_5 : decode cX1_leaderBy 5 = .ok (.ireturn, 1) := by decide +kernel
set_option maxRecDepth 20000 in
theorem ggX1_turnsIn_J6_bitCount_0f7a4 : GoodIn wsX1_turnsIn wsJ6_bitCount_0f7a4 := goodIn_r _ [5, 6, 7, 8] (by decide +kernel) (by decide +kernel)
set_option maxRecDepth 20000 in
theorem gX1_turnsIn_J6_bitCount_0f7a4 : GoodIn wsX1_turnsIn (va_wsS RX1 68 yJ6_bitCount_0f7a4 wsJ6_bitCount_0f7a4) := goodIn_app (goodIn_of _ (by decide +kernel)) ggX1_turnsIn_J6_bitCount_0f7a4
theorem dX1_turnsIn_0 : decode cX1_turnsIn 0 = .ok (.iload_n 2, 1) := by decide +kernel
theorem dX1_turnsIn_1 : decode cX1_turnsIn 1 = .ok (.iconst 1, 1) := by decide +kernel
theorem dX1_turnsIn_2 : decode cX1_turnsIn 2 = .ok (.ishl, 1) := by decide +kernel
theorem dX1_turnsIn_3 : decode cX1_turnsIn 3 = .ok (.aload_n 0, 1) := by decide +kernel
theorem dX1_turnsIn_4 : decode cX1_turnsIn 4 = .ok (.getfield 19, 3) := by decide +kernel
theorem dX1_turnsIn_7 : decode cX1_turnsIn 7 = .ok (.getfield 54, 3) := by decide +kernel
theorem dX1_turnsIn_10 : decode cX1_turnsIn 10 = .ok (.ior, 1) := by decide +kernel
theorem dX1_turnsIn_11 : decode cX1_turnsIn 11 = .ok (.istore_n 3, 1) := by decide +kernel
theorem dX1_turnsIn_12 : decode cX1_turnsIn 12 = .ok (.iconst 1, 1) := by decide +kernel
theorem dX1_turnsIn_13 : decode cX1_turnsIn 13 = .ok (.iload_n 1, 1) := by decide +kernel
theorem dX1_turnsIn_14 : decode cX1_turnsIn 14 = .ok (.ishl, 1) := by decide +kernel
theorem dX1_turnsIn_15 : decode cX1_turnsIn 15 = .ok (.iconst 1, 1) := by decide +kernel
theorem dX1_turnsIn_16 : decode cX1_turnsIn 16 = .ok (.isub, 1) := by decide +kernel
theorem dX1_turnsIn_17 : decode cX1_turnsIn 17 = .ok (.istore 4, 2) := by decide +kernel
theorem dX1_turnsIn_19 : decode cX1_turnsIn 19 = .ok (.iload_n 2, 1) := by decide +kernel
theorem dX1_turnsIn_20 : decode cX1_turnsIn 20 = .ok (.iload_n 3, 1) := by decide +kernel
theorem dX1_turnsIn_21 : decode cX1_turnsIn 21 = .ok (.ixor, 1) := by decide +kernel
theorem dX1_turnsIn_22 : decode cX1_turnsIn 22 = .ok (.iload 4, 2) := by decide +kernel
theorem dX1_turnsIn_24 : decode cX1_turnsIn 24 = .ok (.iand, 1) := by decide +kernel
theorem dX1_turnsIn_25 : decode cX1_turnsIn 25 = .ok (.invokestatic 68, 3) := by decide +kernel
theorem dX1_turnsIn_28 : decode cX1_turnsIn 28 = .ok (.ireturn, 1) := by decide +kernel
set_option maxRecDepth 20000 in
theorem ggX1_aslantBits_X3_kindOf : GoodIn wsX1_aslantBits wsX3_kindOf := goodIn_r _ [7, 8, 9, 10, 11, 6, 12, 13, 26, 27, 28, 29, 30, 31, 32, 33, 34, 35] (by decide +kernel) (by decide +kernel)
set_option maxRecDepth 20000 in
theorem gX1_aslantBits_X3_kindOf : GoodIn wsX1_aslantBits (wsV RX1 89 RX3 yX3_kindOf wsX3_kindOf) := goodIn_app (goodIn_of _ (by decide +kernel)) ggX1_aslantBits_X3_kindOf
theorem dX1_aslantBits_0 : decode cX1_aslantBits 0 = .ok (.iconst 0, 1) := by decide +kernel
theorem dX1_aslantBits_1 : decode cX1_aslantBits 1 = .ok (.istore_n 1, 1) := by decide +kernel
theorem dX1_aslantBits_2 : decode cX1_aslantBits 2 = .ok (.aload_n 0, 1) := by decide +kernel
theorem dX1_aslantBits_3 : decode cX1_aslantBits 3 = .ok (.getfield 19, 3) := by decide +kernel
theorem dX1_aslantBits_6 : decode cX1_aslantBits 6 = .ok (.getfield 29, 3) := by decide +kernel
theorem dX1_aslantBits_9 : decode cX1_aslantBits 9 = .ok (.istore_n 2, 1) := by decide +kernel
theorem dX1_aslantBits_10 : decode cX1_aslantBits 10 = .ok (.iload_n 2, 1) := by decide +kernel
theorem dX1_aslantBits_11 : decode cX1_aslantBits 11 = .ok (.aload_n 0, 1) := by decide +kernel
theorem dX1_aslantBits_12 : decode cX1_aslantBits 12 = .ok (.getfield 15, 3) := by decide +kernel
theorem dX1_aslantBits_15 : decode cX1_aslantBits 15 = .ok (.getfield 23, 3) := by decide +kernel
theorem dX1_aslantBits_18 : decode cX1_aslantBits 18 = .ok (.if_icmp .ge 27, 3) := by decide +kernel
theorem dX1_aslantBits_21 : decode cX1_aslantBits 21 = .ok (.aload_n 0, 1) := by decide +kernel
theorem dX1_aslantBits_22 : decode cX1_aslantBits 22 = .ok (.getfield 15, 3) := by decide +kernel
theorem dX1_aslantBits_25 : decode cX1_aslantBits 25 = .ok (.iload_n 2, 1) := by decide +kernel
theorem dX1_aslantBits_26 : decode cX1_aslantBits 26 = .ok (.invokevirtual 89, 3) := by decide +kernel
theorem dX1_aslantBits_29 : decode cX1_aslantBits 29 = .ok (.iconst 1, 1) := by decide +kernel
theorem dX1_aslantBits_30 : decode cX1_aslantBits 30 = .ok (.if_icmp .ne 9, 3) := by decide +kernel
theorem dX1_aslantBits_33 : decode cX1_aslantBits 33 = .ok (.iload_n 1, 1) := by decide +kernel
theorem dX1_aslantBits_34 : decode cX1_aslantBits 34 = .ok (.iconst 1, 1) := by decide +kernel
theorem dX1_aslantBits_35 : decode cX1_aslantBits 35 = .ok (.iload_n 2, 1) := by decide +kernel
theorem dX1_aslantBits_36 : decode cX1_aslantBits 36 = .ok (.ishl, 1) := by decide +kernel
theorem dX1_aslantBits_37 : decode cX1_aslantBits 37 = .ok (.ior, 1) := by decide +kernel
theorem dX1_aslantBits_38 : decode cX1_aslantBits 38 = .ok (.istore_n 1, 1) := by decide +kernel
theorem dX1_aslantBits_39 : decode cX1_aslantBits 39 = .ok (.iinc 2 1, 3) := by decide +kernel
theorem dX1_aslantBits_42 : decode cX1_aslantBits 42 = .ok (.goto (-32), 3) := by decide +kernel
theorem dX1_aslantBits_45 : decode cX1_aslantBits 45 = .ok (.iload_n 1, 1) := by decide +kernel
theorem dX1_aslantBits_46 : decode cX1_aslantBits 46 = .ok (.ireturn, 1) := by decide +kernel
set_option maxRecDepth 20000 in
theorem ggX1_moreByStepping_X3_groundIfStepped : GoodIn wsX1_moreByStepping wsX3_groundIfStepped := goodIn_r _ [7, 8, 9, 10, 6, 11, 12, 13, 14, 15, 16, 17, 18, 19, 20, 38, 39, 40, 41, 42, 43, 44, 45, 46, 47] (by decide +kernel) (by decide +kernel)
set_option maxRecDepth 20000 in
theorem gX1_moreByStepping_X3_groundIfStepped : GoodIn wsX1_moreByStepping (wsV RX1 92 RX3 yX3_groundIfStepped wsX3_groundIfStepped) := goodIn_app (goodIn_of _ (by decide +kernel)) ggX1_moreByStepping_X3_groundIfStepped
set_option maxRecDepth 20000 in
theorem ggX1_moreByStepping_X3_groundAt : GoodIn wsX1_moreByStepping wsX3_groundAt := goodIn_r _ [24, 25, 13, 14, 15, 6, 16, 17, 38, 39, 40, 41, 42, 43, 44, 45, 46, 47] (by decide +kernel) (by decide +kernel)
set_option maxRecDepth 20000 in
theorem gX1_moreByStepping_X3_groundAt : GoodIn wsX1_moreByStepping (wsV RX1 37 RX3 yX3_groundAt wsX3_groundAt) := goodIn_app (goodIn_of _ (by decide +kernel)) ggX1_moreByStepping_X3_groundAt
theorem dX1_moreByStepping_0 : decode cX1_moreByStepping 0 = .ok (.iconst 0, 1) := by decide +kernel
theorem dX1_moreByStepping_1 : decode cX1_moreByStepping 1 = .ok (.istore_n 2, 1) := by decide +kernel
theorem dX1_moreByStepping_2 : decode cX1_moreByStepping 2 = .ok (.aload_n 0, 1) := by decide +kernel
theorem dX1_moreByStepping_3 : decode cX1_moreByStepping 3 = .ok (.getfield 19, 3) := by decide +kernel
theorem dX1_moreByStepping_6 : decode cX1_moreByStepping 6 = .ok (.getfield 29, 3) := by decide +kernel
theorem dX1_moreByStepping_9 : decode cX1_moreByStepping 9 = .ok (.istore_n 3, 1) := by decide +kernel
theorem dX1_moreByStepping_10 : decode cX1_moreByStepping 10 = .ok (.iload_n 3, 1) := by decide +kernel
theorem dX1_moreByStepping_11 : decode cX1_moreByStepping 11 = .ok (.aload_n 0, 1) := by decide +kernel
theorem dX1_moreByStepping_12 : decode cX1_moreByStepping 12 = .ok (.getfield 15, 3) := by decide +kernel
theorem dX1_moreByStepping_15 : decode cX1_moreByStepping 15 = .ok (.getfield 23, 3) := by decide +kernel
theorem dX1_moreByStepping_18 : decode cX1_moreByStepping 18 = .ok (.if_icmp .ge 38, 3) := by decide +kernel
theorem dX1_moreByStepping_21 : decode cX1_moreByStepping 21 = .ok (.iload_n 1, 1) := by decide +kernel
theorem dX1_moreByStepping_22 : decode cX1_moreByStepping 22 = .ok (.iload_n 3, 1) := by decide +kernel
theorem dX1_moreByStepping_23 : decode cX1_moreByStepping 23 = .ok (.ishr, 1) := by decide +kernel
theorem dX1_moreByStepping_24 : decode cX1_moreByStepping 24 = .ok (.iconst 1, 1) := by decide +kernel
theorem dX1_moreByStepping_25 : decode cX1_moreByStepping 25 = .ok (.iand, 1) := by decide +kernel
theorem dX1_moreByStepping_26 : decode cX1_moreByStepping 26 = .ok (.iconst 1, 1) := by decide +kernel
theorem dX1_moreByStepping_27 : decode cX1_moreByStepping 27 = .ok (.if_icmp .ne 23, 3) := by decide +kernel
theorem dX1_moreByStepping_30 : decode cX1_moreByStepping 30 = .ok (.iload_n 2, 1) := by decide +kernel
theorem dX1_moreByStepping_31 : decode cX1_moreByStepping 31 = .ok (.aload_n 0, 1) := by decide +kernel
theorem dX1_moreByStepping_32 : decode cX1_moreByStepping 32 = .ok (.getfield 15, 3) := by decide +kernel
theorem dX1_moreByStepping_35 : decode cX1_moreByStepping 35 = .ok (.iload_n 3, 1) := by decide +kernel
theorem dX1_moreByStepping_36 : decode cX1_moreByStepping 36 = .ok (.invokevirtual 92, 3) := by decide +kernel
theorem dX1_moreByStepping_39 : decode cX1_moreByStepping 39 = .ok (.aload_n 0, 1) := by decide +kernel
theorem dX1_moreByStepping_40 : decode cX1_moreByStepping 40 = .ok (.getfield 15, 3) := by decide +kernel
theorem dX1_moreByStepping_43 : decode cX1_moreByStepping 43 = .ok (.iload_n 3, 1) := by decide +kernel
theorem dX1_moreByStepping_44 : decode cX1_moreByStepping 44 = .ok (.invokevirtual 37, 3) := by decide +kernel
theorem dX1_moreByStepping_47 : decode cX1_moreByStepping 47 = .ok (.isub, 1) := by decide +kernel
theorem dX1_moreByStepping_48 : decode cX1_moreByStepping 48 = .ok (.iadd, 1) := by decide +kernel
theorem dX1_moreByStepping_49 : decode cX1_moreByStepping 49 = .ok (.istore_n 2, 1) := by decide +kernel
theorem dX1_moreByStepping_50 : decode cX1_moreByStepping 50 = .ok (.iinc 3 1, 3) := by decide +kernel
theorem dX1_moreByStepping_53 : decode cX1_moreByStepping 53 = .ok (.goto (-43), 3) := by decide +kernel
theorem dX1_moreByStepping_56 : decode cX1_moreByStepping 56 = .ok (.iload_n 2, 1) := by decide +kernel
theorem dX1_moreByStepping_57 : decode cX1_moreByStepping 57 = .ok (.ireturn, 1) := by decide +kernel
set_option maxRecDepth 20000 in
theorem ggX1_madeBy_X1_madeByOne : GoodIn wsX1_madeBy wsX1_madeByOne := goodIn_r _ [9, 10, 11, 12, 13, 14, 8, 15, 16, 17, 18, 19, 20, 21, 22, 23, 24, 25, 26, 27, 28, 29, 30, 31, 32, 33, 34, 35, 36, 37, 38, 39, 40, 41, 42, 43, 44, 45, 46, 47, 48, 49, 50, 51, 52, 53, 54] (by decide +kernel) (by decide +kernel)
set_option maxRecDepth 20000 in
theorem gX1_madeBy_X1_madeByOne : GoodIn wsX1_madeBy (wsV RX1 95 RX1 yX1_madeByOne wsX1_madeByOne) := goodIn_app (goodIn_of _ (by decide +kernel)) ggX1_madeBy_X1_madeByOne
theorem dX1_madeBy_0 : decode cX1_madeBy 0 = .ok (.iconst 0, 1) := by decide +kernel
theorem dX1_madeBy_1 : decode cX1_madeBy 1 = .ok (.istore_n 3, 1) := by decide +kernel
theorem dX1_madeBy_2 : decode cX1_madeBy 2 = .ok (.iconst 0, 1) := by decide +kernel
theorem dX1_madeBy_3 : decode cX1_madeBy 3 = .ok (.istore 4, 2) := by decide +kernel
theorem dX1_madeBy_5 : decode cX1_madeBy 5 = .ok (.iload 4, 2) := by decide +kernel
theorem dX1_madeBy_7 : decode cX1_madeBy 7 = .ok (.iconst 4, 1) := by decide +kernel
theorem dX1_madeBy_8 : decode cX1_madeBy 8 = .ok (.if_icmp .ge 29, 3) := by decide +kernel
theorem dX1_madeBy_11 : decode cX1_madeBy 11 = .ok (.iload_n 1, 1) := by decide +kernel
theorem dX1_madeBy_12 : decode cX1_madeBy 12 = .ok (.iload 4, 2) := by decide +kernel
theorem dX1_madeBy_14 : decode cX1_madeBy 14 = .ok (.ishr, 1) := by decide +kernel
theorem dX1_madeBy_15 : decode cX1_madeBy 15 = .ok (.iconst 1, 1) := by decide +kernel
theorem dX1_madeBy_16 : decode cX1_madeBy 16 = .ok (.iand, 1) := by decide +kernel
theorem dX1_madeBy_17 : decode cX1_madeBy 17 = .ok (.iconst 1, 1) := by decide +kernel
theorem dX1_madeBy_18 : decode cX1_madeBy 18 = .ok (.if_icmp .ne 13, 3) := by decide +kernel
theorem dX1_madeBy_21 : decode cX1_madeBy 21 = .ok (.iload_n 3, 1) := by decide +kernel
theorem dX1_madeBy_22 : decode cX1_madeBy 22 = .ok (.aload_n 0, 1) := by decide +kernel
theorem dX1_madeBy_23 : decode cX1_madeBy 23 = .ok (.iload 4, 2) := by decide +kernel
theorem dX1_madeBy_25 : decode cX1_madeBy 25 = .ok (.iload_n 2, 1) := by decide +kernel
theorem dX1_madeBy_26 : decode cX1_madeBy 26 = .ok (.invokevirtual 95, 3) := by decide +kernel
theorem dX1_madeBy_29 : decode cX1_madeBy 29 = .ok (.iadd, 1) := by decide +kernel
theorem dX1_madeBy_30 : decode cX1_madeBy 30 = .ok (.istore_n 3, 1) := by decide +kernel
theorem dX1_madeBy_31 : decode cX1_madeBy 31 = .ok (.iinc 4 1, 3) := by decide +kernel
theorem dX1_madeBy_34 : decode cX1_madeBy 34 = .ok (.goto (-29), 3) := by decide +kernel
theorem dX1_madeBy_37 : decode cX1_madeBy 37 = .ok (.iload_n 3, 1) := by decide +kernel
theorem dX1_madeBy_38 : decode cX1_madeBy 38 = .ok (.invokestatic 60, 3) := by decide +kernel
theorem dX1_madeBy_41 : decode cX1_madeBy 41 = .ok (.ireturn, 1) := by decide +kernel
set_option maxRecDepth 20000 in
theorem ggX1_madeByOne_X1_groundOf : GoodIn wsX1_madeByOne wsX1_groundOf := goodIn_r _ [7, 1, 2, 8, 9, 10, 11, 12, 13, 14, 15, 16, 17, 18, 25, 26, 27, 28, 29, 30, 31, 32, 33, 34, 35, 36, 37, 38, 39, 40, 41, 42, 43, 44, 45, 46] (by decide +kernel) (by decide +kernel)
set_option maxRecDepth 20000 in
theorem gX1_madeByOne_X1_groundOf : GoodIn wsX1_madeByOne (wsV RX1 98 RX1 yX1_groundOf wsX1_groundOf) := goodIn_app (goodIn_of _ (by decide +kernel)) ggX1_madeByOne_X1_groundOf
set_option maxRecDepth 20000 in
theorem ggX1_madeByOne_X3_bentOf : GoodIn wsX1_madeByOne wsX3_bentOf := goodIn_r _ [22, 23, 24, 37, 38, 39, 40, 41, 42, 43, 44, 45, 46] (by decide +kernel) (by decide +kernel)
set_option maxRecDepth 20000 in
theorem gX1_madeByOne_X3_bentOf : GoodIn wsX1_madeByOne (wsV RX1 41 RX3 yX3_bentOf wsX3_bentOf) := goodIn_app (goodIn_of _ (by decide +kernel)) ggX1_madeByOne_X3_bentOf
theorem dX1_madeByOne_0 : decode cX1_madeByOne 0 = .ok (.iload_n 1, 1) := by decide +kernel
theorem dX1_madeByOne_1 : decode cX1_madeByOne 1 = .ok (.tableswitch 60 0 2 #[27, 37, 43], 27) := by decide +kernel
theorem dX1_madeByOne_28 : decode cX1_madeByOne 28 = .ok (.iload_n 2, 1) := by decide +kernel
theorem dX1_madeByOne_29 : decode cX1_madeByOne 29 = .ok (.aload_n 0, 1) := by decide +kernel
theorem dX1_madeByOne_30 : decode cX1_madeByOne 30 = .ok (.getfield 19, 3) := by decide +kernel
theorem dX1_madeByOne_33 : decode cX1_madeByOne 33 = .ok (.getfield 34, 3) := by decide +kernel
theorem dX1_madeByOne_36 : decode cX1_madeByOne 36 = .ok (.imul, 1) := by decide +kernel
theorem dX1_madeByOne_37 : decode cX1_madeByOne 37 = .ok (.ireturn, 1) := by decide +kernel
theorem dX1_madeByOne_38 : decode cX1_madeByOne 38 = .ok (.aload_n 0, 1) := by decide +kernel
theorem dX1_madeByOne_39 : decode cX1_madeByOne 39 = .ok (.iload_n 2, 1) := by decide +kernel
theorem dX1_madeByOne_40 : decode cX1_madeByOne 40 = .ok (.invokevirtual 98, 3) := by decide +kernel
theorem dX1_madeByOne_43 : decode cX1_madeByOne 43 = .ok (.ireturn, 1) := by decide +kernel
theorem dX1_madeByOne_44 : decode cX1_madeByOne 44 = .ok (.iload_n 2, 1) := by decide +kernel
theorem dX1_madeByOne_45 : decode cX1_madeByOne 45 = .ok (.aload_n 0, 1) := by decide +kernel
theorem dX1_madeByOne_46 : decode cX1_madeByOne 46 = .ok (.getfield 15, 3) := by decide +kernel
theorem dX1_madeByOne_49 : decode cX1_madeByOne 49 = .ok (.aload_n 0, 1) := by decide +kernel
theorem dX1_madeByOne_50 : decode cX1_madeByOne 50 = .ok (.getfield 19, 3) := by decide +kernel
theorem dX1_madeByOne_53 : decode cX1_madeByOne 53 = .ok (.getfield 54, 3) := by decide +kernel
theorem dX1_madeByOne_56 : decode cX1_madeByOne 56 = .ok (.invokevirtual 41, 3) := by decide +kernel
theorem dX1_madeByOne_59 : decode cX1_madeByOne 59 = .ok (.imul, 1) := by decide +kernel
theorem dX1_madeByOne_60 : decode cX1_madeByOne 60 = .ok (.ireturn, 1) := by decide +kernel
theorem dX1_madeByOne_61 : decode cX1_madeByOne 61 = .ok (.iload_n 2, 1) := by decide +kernel
theorem dX1_madeByOne_62 : decode cX1_madeByOne 62 = .ok (.ineg, 1) := by decide +kernel
theorem dX1_madeByOne_63 : decode cX1_madeByOne 63 = .ok (.aload_n 0, 1) := by decide +kernel
theorem dX1_madeByOne_64 : decode cX1_madeByOne 64 = .ok (.getfield 19, 3) := by decide +kernel
theorem dX1_madeByOne_67 : decode cX1_madeByOne 67 = .ok (.getfield 44, 3) := by decide +kernel
theorem dX1_madeByOne_70 : decode cX1_madeByOne 70 = .ok (.imul, 1) := by decide +kernel
theorem dX1_madeByOne_71 : decode cX1_madeByOne 71 = .ok (.ireturn, 1) := by decide +kernel
set_option maxRecDepth 20000 in
theorem ggX1_groundOf_X3_groundAt : GoodIn wsX1_groundOf wsX3_groundAt := goodIn_r _ [7, 8, 9, 10, 11, 6, 12, 13, 26, 27, 28, 29, 30, 31, 32, 33, 34, 35] (by decide +kernel) (by decide +kernel)
set_option maxRecDepth 20000 in
theorem gX1_groundOf_X3_groundAt : GoodIn wsX1_groundOf (wsV RX1 37 RX3 yX3_groundAt wsX3_groundAt) := goodIn_app (goodIn_of _ (by decide +kernel)) ggX1_groundOf_X3_groundAt
theorem dX1_groundOf_0 : decode cX1_groundOf 0 = .ok (.iconst 0, 1) := by decide +kernel
theorem dX1_groundOf_1 : decode cX1_groundOf 1 = .ok (.istore_n 2, 1) := by decide +kernel
theorem dX1_groundOf_2 : decode cX1_groundOf 2 = .ok (.aload_n 0, 1) := by decide +kernel
theorem dX1_groundOf_3 : decode cX1_groundOf 3 = .ok (.getfield 19, 3) := by decide +kernel
theorem dX1_groundOf_6 : decode cX1_groundOf 6 = .ok (.getfield 29, 3) := by decide +kernel
theorem dX1_groundOf_9 : decode cX1_groundOf 9 = .ok (.istore_n 3, 1) := by decide +kernel
theorem dX1_groundOf_10 : decode cX1_groundOf 10 = .ok (.iload_n 3, 1) := by decide +kernel
theorem dX1_groundOf_11 : decode cX1_groundOf 11 = .ok (.aload_n 0, 1) := by decide +kernel
theorem dX1_groundOf_12 : decode cX1_groundOf 12 = .ok (.getfield 19, 3) := by decide +kernel
theorem dX1_groundOf_15 : decode cX1_groundOf 15 = .ok (.getfield 29, 3) := by decide +kernel
theorem dX1_groundOf_18 : decode cX1_groundOf 18 = .ok (.iload_n 1, 1) := by decide +kernel
theorem dX1_groundOf_19 : decode cX1_groundOf 19 = .ok (.iadd, 1) := by decide +kernel
theorem dX1_groundOf_20 : decode cX1_groundOf 20 = .ok (.if_icmp .ge 20, 3) := by decide +kernel
theorem dX1_groundOf_23 : decode cX1_groundOf 23 = .ok (.iload_n 2, 1) := by decide +kernel
theorem dX1_groundOf_24 : decode cX1_groundOf 24 = .ok (.aload_n 0, 1) := by decide +kernel
theorem dX1_groundOf_25 : decode cX1_groundOf 25 = .ok (.getfield 15, 3) := by decide +kernel
theorem dX1_groundOf_28 : decode cX1_groundOf 28 = .ok (.iload_n 3, 1) := by decide +kernel
theorem dX1_groundOf_29 : decode cX1_groundOf 29 = .ok (.invokevirtual 37, 3) := by decide +kernel
theorem dX1_groundOf_32 : decode cX1_groundOf 32 = .ok (.iadd, 1) := by decide +kernel
theorem dX1_groundOf_33 : decode cX1_groundOf 33 = .ok (.istore_n 2, 1) := by decide +kernel
theorem dX1_groundOf_34 : decode cX1_groundOf 34 = .ok (.iinc 3 1, 3) := by decide +kernel
theorem dX1_groundOf_37 : decode cX1_groundOf 37 = .ok (.goto (-27), 3) := by decide +kernel
theorem dX1_groundOf_40 : decode cX1_groundOf 40 = .ok (.iload_n 2, 1) := by decide +kernel
theorem dX1_groundOf_41 : decode cX1_groundOf 41 = .ok (.ireturn, 1) := by decide +kernel
theorem dX1_ordersAround_0 : decode cX1_ordersAround 0 = .ok (.iload_n 0, 1) := by decide +kernel
theorem dX1_ordersAround_1 : decode cX1_ordersAround 1 = .ok (.ifCond .eq 8, 3) := by decide +kernel
theorem dX1_ordersAround_4 : decode cX1_ordersAround 4 = .ok (.iload_n 0, 1) := by decide +kernel
theorem dX1_ordersAround_5 : decode cX1_ordersAround 5 = .ok (.iconst 3, 1) := by decide +kernel
theorem dX1_ordersAround_6 : decode cX1_ordersAround 6 = .ok (.if_icmp .ne 8, 3) := by decide +kernel
theorem dX1_ordersAround_9 : decode cX1_ordersAround 9 = .ok (.bipush 6, 2) := by decide +kernel
theorem dX1_ordersAround_11 : decode cX1_ordersAround 11 = .ok (.goto 4, 3) := by decide +kernel
theorem dX1_ordersAround_14 : decode cX1_ordersAround 14 = .ok (.iconst 2, 1) := by decide +kernel
theorem dX1_ordersAround_15 : decode cX1_ordersAround 15 = .ok (.ireturn, 1) := by decide +kernel
theorem dX2_init_0 : decode cX2_init 0 = .ok (.aload_n 0, 1) := by decide +kernel
theorem dX2_init_1 : decode cX2_init 1 = .ok (.invokespecial 3, 3) := by decide +kernel
theorem dX2_init_4 : decode cX2_init 4 = .ok (.aload_n 0, 1) := by decide +kernel
theorem dX2_init_5 : decode cX2_init 5 = .ok (.aload_n 1, 1) := by decide +kernel
theorem dX2_init_6 : decode cX2_init 6 = .ok (.putfield 9, 3) := by decide +kernel
theorem dX2_init_9 : decode cX2_init 9 = .ok (.aload_n 0, 1) := by decide +kernel
theorem dX2_init_10 : decode cX2_init 10 = .ok (.aload_n 2, 1) := by decide +kernel
theorem dX2_init_11 : decode cX2_init 11 = .ok (.putfield 15, 3) := by decide +kernel
theorem dX2_init_14 : decode cX2_init 14 = .ok (.return_, 1) := by decide +kernel
set_option maxRecDepth 20000 in
theorem ggX2_gorseOfLast_X3_gorseOf : GoodIn wsX2_gorseOfLast wsX3_gorseOf := goodIn_r _ [7, 8, 9, 10, 11, 6, 12, 13, 25, 26, 27, 28, 29, 30, 31, 32, 33, 34] (by decide +kernel) (by decide +kernel)
set_option maxRecDepth 20000 in
theorem gX2_gorseOfLast_X3_gorseOf : GoodIn wsX2_gorseOfLast (wsV RX2 25 RX3 yX3_gorseOf wsX3_gorseOf) := goodIn_app (goodIn_of _ (by decide +kernel)) ggX2_gorseOfLast_X3_gorseOf
theorem dX2_gorseOfLast_0 : decode cX2_gorseOfLast 0 = .ok (.iconst 0, 1) := by decide +kernel
theorem dX2_gorseOfLast_1 : decode cX2_gorseOfLast 1 = .ok (.istore_n 2, 1) := by decide +kernel
theorem dX2_gorseOfLast_2 : decode cX2_gorseOfLast 2 = .ok (.aload_n 0, 1) := by decide +kernel
theorem dX2_gorseOfLast_3 : decode cX2_gorseOfLast 3 = .ok (.getfield 15, 3) := by decide +kernel
theorem dX2_gorseOfLast_6 : decode cX2_gorseOfLast 6 = .ok (.getfield 19, 3) := by decide +kernel
theorem dX2_gorseOfLast_9 : decode cX2_gorseOfLast 9 = .ok (.iload_n 1, 1) := by decide +kernel
theorem dX2_gorseOfLast_10 : decode cX2_gorseOfLast 10 = .ok (.isub, 1) := by decide +kernel
theorem dX2_gorseOfLast_11 : decode cX2_gorseOfLast 11 = .ok (.istore_n 3, 1) := by decide +kernel
theorem dX2_gorseOfLast_12 : decode cX2_gorseOfLast 12 = .ok (.iload_n 3, 1) := by decide +kernel
theorem dX2_gorseOfLast_13 : decode cX2_gorseOfLast 13 = .ok (.aload_n 0, 1) := by decide +kernel
theorem dX2_gorseOfLast_14 : decode cX2_gorseOfLast 14 = .ok (.getfield 15, 3) := by decide +kernel
theorem dX2_gorseOfLast_17 : decode cX2_gorseOfLast 17 = .ok (.getfield 19, 3) := by decide +kernel
theorem dX2_gorseOfLast_20 : decode cX2_gorseOfLast 20 = .ok (.if_icmp .ge 20, 3) := by decide +kernel
theorem dX2_gorseOfLast_23 : decode cX2_gorseOfLast 23 = .ok (.iload_n 2, 1) := by decide +kernel
theorem dX2_gorseOfLast_24 : decode cX2_gorseOfLast 24 = .ok (.aload_n 0, 1) := by decide +kernel
theorem dX2_gorseOfLast_25 : decode cX2_gorseOfLast 25 = .ok (.getfield 9, 3) := by decide +kernel
theorem dX2_gorseOfLast_28 : decode cX2_gorseOfLast 28 = .ok (.iload_n 3, 1) := by decide +kernel
theorem dX2_gorseOfLast_29 : decode cX2_gorseOfLast 29 = .ok (.invokevirtual 25, 3) := by decide +kernel
theorem dX2_gorseOfLast_32 : decode cX2_gorseOfLast 32 = .ok (.iadd, 1) := by decide +kernel
theorem dX2_gorseOfLast_33 : decode cX2_gorseOfLast 33 = .ok (.istore_n 2, 1) := by decide +kernel
theorem dX2_gorseOfLast_34 : decode cX2_gorseOfLast 34 = .ok (.iinc 3 1, 3) := by decide +kernel
theorem dX2_gorseOfLast_37 : decode cX2_gorseOfLast 37 = .ok (.goto (-25), 3) := by decide +kernel
theorem dX2_gorseOfLast_40 : decode cX2_gorseOfLast 40 = .ok (.iload_n 2, 1) := by decide +kernel
theorem dX2_gorseOfLast_41 : decode cX2_gorseOfLast 41 = .ok (.ireturn, 1) := by decide +kernel
set_option maxRecDepth 20000 in
theorem ggX2_howFarBack_X2_gorseOfLast : GoodIn wsX2_howFarBack wsX2_gorseOfLast := goodIn_r _ [6, 1, 7, 8, 9, 10, 11, 12, 13, 14, 15, 16, 17, 18, 19, 20, 21, 22, 23, 24, 25, 26, 27, 28, 29, 30, 31, 32, 33, 34, 35, 36, 37, 38, 39] (by decide +kernel) (by decide +kernel)
set_option maxRecDepth 20000 in
theorem gX2_howFarBack_X2_gorseOfLast : GoodIn wsX2_howFarBack (wsV RX2 31 RX2 yX2_gorseOfLast wsX2_gorseOfLast) := goodIn_app (goodIn_of _ (by decide +kernel)) ggX2_howFarBack_X2_gorseOfLast
theorem dX2_howFarBack_0 : decode cX2_howFarBack 0 = .ok (.iload_n 1, 1) := by decide +kernel
theorem dX2_howFarBack_1 : decode cX2_howFarBack 1 = .ok (.aload_n 0, 1) := by decide +kernel
theorem dX2_howFarBack_2 : decode cX2_howFarBack 2 = .ok (.aload_n 0, 1) := by decide +kernel
theorem dX2_howFarBack_3 : decode cX2_howFarBack 3 = .ok (.getfield 15, 3) := by decide +kernel
theorem dX2_howFarBack_6 : decode cX2_howFarBack 6 = .ok (.getfield 19, 3) := by decide +kernel
theorem dX2_howFarBack_9 : decode cX2_howFarBack 9 = .ok (.invokevirtual 31, 3) := by decide +kernel
theorem dX2_howFarBack_12 : decode cX2_howFarBack 12 = .ok (.imul, 1) := by decide +kernel
theorem dX2_howFarBack_13 : decode cX2_howFarBack 13 = .ok (.istore_n 2, 1) := by decide +kernel
theorem dX2_howFarBack_14 : decode cX2_howFarBack 14 = .ok (.iconst 0, 1) := by decide +kernel
theorem dX2_howFarBack_15 : decode cX2_howFarBack 15 = .ok (.istore_n 3, 1) := by decide +kernel
theorem dX2_howFarBack_16 : decode cX2_howFarBack 16 = .ok (.iload_n 3, 1) := by decide +kernel
theorem dX2_howFarBack_17 : decode cX2_howFarBack 17 = .ok (.aload_n 0, 1) := by decide +kernel
theorem dX2_howFarBack_18 : decode cX2_howFarBack 18 = .ok (.getfield 15, 3) := by decide +kernel
theorem dX2_howFarBack_21 : decode cX2_howFarBack 21 = .ok (.getfield 19, 3) := by decide +kernel
theorem dX2_howFarBack_24 : decode cX2_howFarBack 24 = .ok (.if_icmp .ge 23, 3) := by decide +kernel
theorem dX2_howFarBack_27 : decode cX2_howFarBack 27 = .ok (.bipush 10, 2) := by decide +kernel
theorem dX2_howFarBack_29 : decode cX2_howFarBack 29 = .ok (.aload_n 0, 1) := by decide +kernel
theorem dX2_howFarBack_30 : decode cX2_howFarBack 30 = .ok (.iload_n 3, 1) := by decide +kernel
theorem dX2_howFarBack_31 : decode cX2_howFarBack 31 = .ok (.invokevirtual 31, 3) := by decide +kernel
theorem dX2_howFarBack_34 : decode cX2_howFarBack 34 = .ok (.imul, 1) := by decide +kernel
theorem dX2_howFarBack_35 : decode cX2_howFarBack 35 = .ok (.iload_n 2, 1) := by decide +kernel
theorem dX2_howFarBack_36 : decode cX2_howFarBack 36 = .ok (.if_icmp .lt 5, 3) := by decide +kernel
theorem dX2_howFarBack_39 : decode cX2_howFarBack 39 = .ok (.iload_n 3, 1) := by decide +kernel
theorem dX2_howFarBack_40 : decode cX2_howFarBack 40 = .ok (.ireturn, 1) := by decide +kernel
theorem dX2_howFarBack_41 : decode cX2_howFarBack 41 = .ok (.iinc 3 1, 3) := by decide +kernel
theorem dX2_howFarBack_44 : decode cX2_howFarBack 44 = .ok (.goto (-28), 3) := by decide +kernel
theorem dX2_howFarBack_47 : decode cX2_howFarBack 47 = .ok (.aload_n 0, 1) := by decide +kernel
theorem dX2_howFarBack_48 : decode cX2_howFarBack 48 = .ok (.getfield 15, 3) := by decide +kernel
theorem dX2_howFarBack_51 : decode cX2_howFarBack 51 = .ok (.getfield 19, 3) := by decide +kernel
theorem dX2_howFarBack_54 : decode cX2_howFarBack 54 = .ok (.ireturn, 1) := by decide +kernel
theorem dX2_firstShort_0 : decode cX2_firstShort 0 = .ok (.iload_n 2, 1) := by decide +kernel
theorem dX2_firstShort_1 : decode cX2_firstShort 1 = .ok (.istore_n 3, 1) := by decide +kernel
theorem dX2_firstShort_2 : decode cX2_firstShort 2 = .ok (.iconst 0, 1) := by decide +kernel
theorem dX2_firstShort_3 : decode cX2_firstShort 3 = .ok (.istore 4, 2) := by decide +kernel
theorem dX2_firstShort_5 : decode cX2_firstShort 5 = .ok (.iconst 0, 1) := by decide +kernel
theorem dX2_firstShort_6 : decode cX2_firstShort 6 = .ok (.istore 5, 2) := by decide +kernel
theorem dX2_firstShort_8 : decode cX2_firstShort 8 = .ok (.iload 5, 2) := by decide +kernel
theorem dX2_firstShort_10 : decode cX2_firstShort 10 = .ok (.aload_n 0, 1) := by decide +kernel
theorem dX2_firstShort_11 : decode cX2_firstShort 11 = .ok (.getfield 9, 3) := by decide +kernel
theorem dX2_firstShort_14 : decode cX2_firstShort 14 = .ok (.getfield 34, 3) := by decide +kernel
theorem dX2_firstShort_17 : decode cX2_firstShort 17 = .ok (.if_icmp .ge 39, 3) := by decide +kernel
theorem dX2_firstShort_20 : decode cX2_firstShort 20 = .ok (.iload_n 3, 1) := by decide +kernel
theorem dX2_firstShort_21 : decode cX2_firstShort 21 = .ok (.ifCond .ne 17, 3) := by decide +kernel
theorem dX2_firstShort_24 : decode cX2_firstShort 24 = .ok (.iload 4, 2) := by decide +kernel
theorem dX2_firstShort_26 : decode cX2_firstShort 26 = .ok (.istore_n 3, 1) := by decide +kernel
theorem dX2_firstShort_27 : decode cX2_firstShort 27 = .ok (.iconst 0, 1) := by decide +kernel
theorem dX2_firstShort_28 : decode cX2_firstShort 28 = .ok (.istore 4, 2) := by decide +kernel
theorem dX2_firstShort_30 : decode cX2_firstShort 30 = .ok (.iload_n 3, 1) := by decide +kernel
theorem dX2_firstShort_31 : decode cX2_firstShort 31 = .ok (.iload_n 2, 1) := by decide +kernel
theorem dX2_firstShort_32 : decode cX2_firstShort 32 = .ok (.if_icmp .eq 6, 3) := by decide +kernel
theorem dX2_firstShort_35 : decode cX2_firstShort 35 = .ok (.iload 5, 2) := by decide +kernel
theorem dX2_firstShort_37 : decode cX2_firstShort 37 = .ok (.ireturn, 1) := by decide +kernel
theorem dX2_firstShort_38 : decode cX2_firstShort 38 = .ok (.iinc 3 (-1), 3) := by decide +kernel
theorem dX2_firstShort_41 : decode cX2_firstShort 41 = .ok (.iload 5, 2) := by decide +kernel
theorem dX2_firstShort_43 : decode cX2_firstShort 43 = .ok (.iload_n 1, 1) := by decide +kernel
theorem dX2_firstShort_44 : decode cX2_firstShort 44 = .ok (.if_icmp .eq 6, 3) := by decide +kernel
theorem dX2_firstShort_47 : decode cX2_firstShort 47 = .ok (.iinc 4 1, 3) := by decide +kernel
theorem dX2_firstShort_50 : decode cX2_firstShort 50 = .ok (.iinc 5 1, 3) := by decide +kernel
theorem dX2_firstShort_53 : decode cX2_firstShort 53 = .ok (.goto (-45), 3) := by decide +kernel
theorem dX2_firstShort_56 : decode cX2_firstShort 56 = .ok (.bipush (-9), 2) := by decide +kernel
theorem dX2_firstShort_58 : decode cX2_firstShort 58 = .ok (.ireturn, 1) := by decide +kernel
set_option maxRecDepth 20000 in
theorem ggX2_bestArrows_X2_worstWait : GoodIn wsX2_bestArrows wsX2_worstWait := goodIn_r _ [5, 6, 7, 8, 9, 10, 11, 12, 13, 4, 14, 15, 16, 17, 18, 19, 20, 21, 22, 23, 24, 25, 26] (by decide +kernel) (by decide +kernel)
set_option maxRecDepth 20000 in
theorem gX2_bestArrows_X2_worstWait : GoodIn wsX2_bestArrows (wsV RX2 37 RX2 yX2_worstWait wsX2_worstWait) := goodIn_app (goodIn_of _ (by decide +kernel)) ggX2_bestArrows_X2_worstWait
theorem dX2_bestArrows_0 : decode cX2_bestArrows 0 = .ok (.iconst 2, 1) := by decide +kernel
theorem dX2_bestArrows_1 : decode cX2_bestArrows 1 = .ok (.istore_n 1, 1) := by decide +kernel
theorem dX2_bestArrows_2 : decode cX2_bestArrows 2 = .ok (.aload_n 0, 1) := by decide +kernel
theorem dX2_bestArrows_3 : decode cX2_bestArrows 3 = .ok (.iconst 2, 1) := by decide +kernel
theorem dX2_bestArrows_4 : decode cX2_bestArrows 4 = .ok (.invokevirtual 37, 3) := by decide +kernel
theorem dX2_bestArrows_7 : decode cX2_bestArrows 7 = .ok (.istore_n 2, 1) := by decide +kernel
theorem dX2_bestArrows_8 : decode cX2_bestArrows 8 = .ok (.iconst 3, 1) := by decide +kernel
theorem dX2_bestArrows_9 : decode cX2_bestArrows 9 = .ok (.istore_n 3, 1) := by decide +kernel
theorem dX2_bestArrows_10 : decode cX2_bestArrows 10 = .ok (.iload_n 3, 1) := by decide +kernel
theorem dX2_bestArrows_11 : decode cX2_bestArrows 11 = .ok (.bipush 9, 2) := by decide +kernel
theorem dX2_bestArrows_13 : decode cX2_bestArrows 13 = .ok (.if_icmp .gt 27, 3) := by decide +kernel
theorem dX2_bestArrows_16 : decode cX2_bestArrows 16 = .ok (.aload_n 0, 1) := by decide +kernel
theorem dX2_bestArrows_17 : decode cX2_bestArrows 17 = .ok (.iload_n 3, 1) := by decide +kernel
theorem dX2_bestArrows_18 : decode cX2_bestArrows 18 = .ok (.invokevirtual 37, 3) := by decide +kernel
theorem dX2_bestArrows_21 : decode cX2_bestArrows 21 = .ok (.istore 4, 2) := by decide +kernel
theorem dX2_bestArrows_23 : decode cX2_bestArrows 23 = .ok (.iload 4, 2) := by decide +kernel
theorem dX2_bestArrows_25 : decode cX2_bestArrows 25 = .ok (.iload_n 2, 1) := by decide +kernel
theorem dX2_bestArrows_26 : decode cX2_bestArrows 26 = .ok (.if_icmp .ge 8, 3) := by decide +kernel
theorem dX2_bestArrows_29 : decode cX2_bestArrows 29 = .ok (.iload_n 3, 1) := by decide +kernel
theorem dX2_bestArrows_30 : decode cX2_bestArrows 30 = .ok (.istore_n 1, 1) := by decide +kernel
theorem dX2_bestArrows_31 : decode cX2_bestArrows 31 = .ok (.iload 4, 2) := by decide +kernel
theorem dX2_bestArrows_33 : decode cX2_bestArrows 33 = .ok (.istore_n 2, 1) := by decide +kernel
theorem dX2_bestArrows_34 : decode cX2_bestArrows 34 = .ok (.iinc 3 1, 3) := by decide +kernel
theorem dX2_bestArrows_37 : decode cX2_bestArrows 37 = .ok (.goto (-27), 3) := by decide +kernel
theorem dX2_bestArrows_40 : decode cX2_bestArrows 40 = .ok (.iload_n 1, 1) := by decide +kernel
theorem dX2_bestArrows_41 : decode cX2_bestArrows 41 = .ok (.ireturn, 1) := by decide +kernel
set_option maxRecDepth 20000 in
theorem ggX2_worstWait_X2_firstShort : GoodIn wsX2_worstWait wsX2_firstShort := goodIn_r _ [10, 1, 11, 12, 13, 14, 15, 16, 17, 18, 19, 20, 21, 22] (by decide +kernel) (by decide +kernel)
set_option maxRecDepth 20000 in
theorem gX2_worstWait_X2_firstShort : GoodIn wsX2_worstWait (wsV RX2 40 RX2 yX2_firstShort wsX2_firstShort) := goodIn_app (goodIn_of _ (by decide +kernel)) ggX2_worstWait_X2_firstShort
theorem dX2_worstWait_0 : decode cX2_worstWait 0 = .ok (.iconst 0, 1) := by decide +kernel
theorem dX2_worstWait_1 : decode cX2_worstWait 1 = .ok (.istore_n 2, 1) := by decide +kernel
theorem dX2_worstWait_2 : decode cX2_worstWait 2 = .ok (.iconst 0, 1) := by decide +kernel
theorem dX2_worstWait_3 : decode cX2_worstWait 3 = .ok (.istore_n 3, 1) := by decide +kernel
theorem dX2_worstWait_4 : decode cX2_worstWait 4 = .ok (.iload_n 3, 1) := by decide +kernel
theorem dX2_worstWait_5 : decode cX2_worstWait 5 = .ok (.aload_n 0, 1) := by decide +kernel
theorem dX2_worstWait_6 : decode cX2_worstWait 6 = .ok (.getfield 9, 3) := by decide +kernel
theorem dX2_worstWait_9 : decode cX2_worstWait 9 = .ok (.getfield 34, 3) := by decide +kernel
theorem dX2_worstWait_12 : decode cX2_worstWait 12 = .ok (.if_icmp .ge 38, 3) := by decide +kernel
theorem dX2_worstWait_15 : decode cX2_worstWait 15 = .ok (.aload_n 0, 1) := by decide +kernel
theorem dX2_worstWait_16 : decode cX2_worstWait 16 = .ok (.iload_n 3, 1) := by decide +kernel
theorem dX2_worstWait_17 : decode cX2_worstWait 17 = .ok (.iload_n 1, 1) := by decide +kernel
theorem dX2_worstWait_18 : decode cX2_worstWait 18 = .ok (.invokevirtual 40, 3) := by decide +kernel
theorem dX2_worstWait_21 : decode cX2_worstWait 21 = .ok (.istore 4, 2) := by decide +kernel
theorem dX2_worstWait_23 : decode cX2_worstWait 23 = .ok (.iload_n 2, 1) := by decide +kernel
theorem dX2_worstWait_24 : decode cX2_worstWait 24 = .ok (.iload 4, 2) := by decide +kernel
theorem dX2_worstWait_26 : decode cX2_worstWait 26 = .ok (.bipush (-9), 2) := by decide +kernel
theorem dX2_worstWait_28 : decode cX2_worstWait 28 = .ok (.if_icmp .ne 8, 3) := by decide +kernel
theorem dX2_worstWait_31 : decode cX2_worstWait 31 = .ok (.bipush 9, 2) := by decide +kernel
theorem dX2_worstWait_33 : decode cX2_worstWait 33 = .ok (.goto 7, 3) := by decide +kernel
theorem dX2_worstWait_36 : decode cX2_worstWait 36 = .ok (.iload 4, 2) := by decide +kernel
theorem dX2_worstWait_38 : decode cX2_worstWait 38 = .ok (.iload_n 3, 1) := by decide +kernel
theorem dX2_worstWait_39 : decode cX2_worstWait 39 = .ok (.isub, 1) := by decide +kernel
theorem dX2_worstWait_40 : decode cX2_worstWait 40 = .ok (.invokestatic 44, 3) := by decide +kernel
theorem dX2_worstWait_43 : decode cX2_worstWait 43 = .ok (.istore_n 2, 1) := by decide +kernel
theorem dX2_worstWait_44 : decode cX2_worstWait 44 = .ok (.iinc 3 1, 3) := by decide +kernel
theorem dX2_worstWait_47 : decode cX2_worstWait 47 = .ok (.goto (-43), 3) := by decide +kernel
theorem dX2_worstWait_50 : decode cX2_worstWait 50 = .ok (.iload_n 2, 1) := by decide +kernel
theorem dX2_worstWait_51 : decode cX2_worstWait 51 = .ok (.ireturn, 1) := by decide +kernel
theorem dX3_init_0 : decode cX3_init 0 = .ok (.aload_n 0, 1) := by decide +kernel
theorem dX3_init_1 : decode cX3_init 1 = .ok (.invokespecial 3, 3) := by decide +kernel
theorem dX3_init_4 : decode cX3_init 4 = .ok (.aload_n 0, 1) := by decide +kernel
theorem dX3_init_5 : decode cX3_init 5 = .ok (.iconst 2, 1) := by decide +kernel
theorem dX3_init_6 : decode cX3_init 6 = .ok (.putfield 9, 3) := by decide +kernel
theorem dX3_init_9 : decode cX3_init 9 = .ok (.aload_n 0, 1) := by decide +kernel
theorem dX3_init_10 : decode cX3_init 10 = .ok (.iconst 0, 1) := by decide +kernel
theorem dX3_init_11 : decode cX3_init 11 = .ok (.putfield 15, 3) := by decide +kernel
theorem dX3_init_14 : decode cX3_init 14 = .ok (.aload_n 0, 1) := by decide +kernel
theorem dX3_init_15 : decode cX3_init 15 = .ok (.iconst 0, 1) := by decide +kernel
theorem dX3_init_16 : decode cX3_init 16 = .ok (.putfield 18, 3) := by decide +kernel
theorem dX3_init_19 : decode cX3_init 19 = .ok (.aload_n 0, 1) := by decide +kernel
theorem dX3_init_20 : decode cX3_init 20 = .ok (.iconst 0, 1) := by decide +kernel
theorem dX3_init_21 : decode cX3_init 21 = .ok (.putfield 21, 3) := by decide +kernel
theorem dX3_init_24 : decode cX3_init 24 = .ok (.aload_n 0, 1) := by decide +kernel
theorem dX3_init_25 : decode cX3_init 25 = .ok (.iconst 0, 1) := by decide +kernel
theorem dX3_init_26 : decode cX3_init 26 = .ok (.putfield 24, 3) := by decide +kernel
theorem dX3_init_29 : decode cX3_init 29 = .ok (.aload_n 0, 1) := by decide +kernel
theorem dX3_init_30 : decode cX3_init 30 = .ok (.iconst 0, 1) := by decide +kernel
theorem dX3_init_31 : decode cX3_init 31 = .ok (.putfield 27, 3) := by decide +kernel
theorem dX3_init_34 : decode cX3_init 34 = .ok (.aload_n 0, 1) := by decide +kernel
theorem dX3_init_35 : decode cX3_init 35 = .ok (.bipush 8, 2) := by decide +kernel
theorem dX3_init_37 : decode cX3_init 37 = .ok (.newarray .int, 2) := by decide +kernel
theorem dX3_init_39 : decode cX3_init 39 = .ok (.putfield 30, 3) := by decide +kernel
theorem dX3_init_42 : decode cX3_init 42 = .ok (.aload_n 0, 1) := by decide +kernel
theorem dX3_init_43 : decode cX3_init 43 = .ok (.bipush 8, 2) := by decide +kernel
theorem dX3_init_45 : decode cX3_init 45 = .ok (.newarray .int, 2) := by decide +kernel
theorem dX3_init_47 : decode cX3_init 47 = .ok (.putfield 34, 3) := by decide +kernel
theorem dX3_init_50 : decode cX3_init 50 = .ok (.aload_n 0, 1) := by decide +kernel
theorem dX3_init_51 : decode cX3_init 51 = .ok (.bipush 8, 2) := by decide +kernel
theorem dX3_init_53 : decode cX3_init 53 = .ok (.newarray .int, 2) := by decide +kernel
theorem dX3_init_55 : decode cX3_init 55 = .ok (.putfield 37, 3) := by decide +kernel
theorem dX3_init_58 : decode cX3_init 58 = .ok (.aload_n 0, 1) := by decide +kernel
theorem dX3_init_59 : decode cX3_init 59 = .ok (.bipush 8, 2) := by decide +kernel
theorem dX3_init_61 : decode cX3_init 61 = .ok (.newarray .int, 2) := by decide +kernel
theorem dX3_init_63 : decode cX3_init 63 = .ok (.putfield 40, 3) := by decide +kernel
theorem dX3_init_66 : decode cX3_init 66 = .ok (.return_, 1) := by decide +kernel
set_option maxRecDepth 20000 in
theorem ggX3_read_X7_digitAt : GoodIn wsX3_read wsX7_digitAt := goodIn_r _ [22, 23, 24, 25, 21, 26, 27, 28, 47, 48] (by decide +kernel) (by decide +kernel)
set_option maxRecDepth 20000 in
theorem gX3_read_X7_digitAt : GoodIn wsX3_read (wsV RX3 43 RX7 yX7_digitAt wsX7_digitAt) := goodIn_app (goodIn_of _ (by decide +kernel)) ggX3_read_X7_digitAt
set_option maxRecDepth 20000 in
theorem ggX3_read_X7_stages : GoodIn wsX3_read wsX7_stages := goodIn_r _ [32, 27, 47, 48] (by decide +kernel) (by decide +kernel)
set_option maxRecDepth 20000 in
theorem gX3_read_X7_stages : GoodIn wsX3_read (wsV RX3 49 RX7 yX7_stages wsX7_stages) := goodIn_app (goodIn_of _ (by decide +kernel)) ggX3_read_X7_stages
set_option maxRecDepth 20000 in
theorem ggX3_read_X3_errorOfGround : GoodIn wsX3_read wsX3_errorOfGround := goodIn_r _ [36] (by decide +kernel) (by decide +kernel)
set_option maxRecDepth 20000 in
theorem gX3_read_X3_errorOfGround : GoodIn wsX3_read (va_wsS RX3 61 yX3_errorOfGround wsX3_errorOfGround) := goodIn_app (goodIn_of _ (by decide +kernel)) ggX3_read_X3_errorOfGround
theorem dX3_read_0 : decode cX3_read 0 = .ok (.aload_n 0, 1) := by decide +kernel
theorem dX3_read_1 : decode cX3_read 1 = .ok (.aload_n 1, 1) := by decide +kernel
theorem dX3_read_2 : decode cX3_read 2 = .ok (.iconst 1, 1) := by decide +kernel
theorem dX3_read_3 : decode cX3_read 3 = .ok (.invokevirtual 43, 3) := by decide +kernel
theorem dX3_read_6 : decode cX3_read 6 = .ok (.putfield 9, 3) := by decide +kernel
theorem dX3_read_9 : decode cX3_read 9 = .ok (.aload_n 0, 1) := by decide +kernel
theorem dX3_read_10 : decode cX3_read 10 = .ok (.aload_n 1, 1) := by decide +kernel
theorem dX3_read_11 : decode cX3_read 11 = .ok (.iconst 2, 1) := by decide +kernel
theorem dX3_read_12 : decode cX3_read 12 = .ok (.invokevirtual 43, 3) := by decide +kernel
theorem dX3_read_15 : decode cX3_read 15 = .ok (.iconst 5, 1) := by decide +kernel
theorem dX3_read_16 : decode cX3_read 16 = .ok (.isub, 1) := by decide +kernel
theorem dX3_read_17 : decode cX3_read 17 = .ok (.putfield 15, 3) := by decide +kernel
theorem dX3_read_20 : decode cX3_read 20 = .ok (.aload_n 0, 1) := by decide +kernel
theorem dX3_read_21 : decode cX3_read 21 = .ok (.aload_n 1, 1) := by decide +kernel
theorem dX3_read_22 : decode cX3_read 22 = .ok (.iconst 3, 1) := by decide +kernel
theorem dX3_read_23 : decode cX3_read 23 = .ok (.invokevirtual 43, 3) := by decide +kernel
theorem dX3_read_26 : decode cX3_read 26 = .ok (.putfield 18, 3) := by decide +kernel
theorem dX3_read_29 : decode cX3_read 29 = .ok (.aload_n 0, 1) := by decide +kernel
theorem dX3_read_30 : decode cX3_read 30 = .ok (.aload_n 1, 1) := by decide +kernel
theorem dX3_read_31 : decode cX3_read 31 = .ok (.iconst 4, 1) := by decide +kernel
theorem dX3_read_32 : decode cX3_read 32 = .ok (.invokevirtual 43, 3) := by decide +kernel
theorem dX3_read_35 : decode cX3_read 35 = .ok (.iconst 5, 1) := by decide +kernel
theorem dX3_read_36 : decode cX3_read 36 = .ok (.isub, 1) := by decide +kernel
theorem dX3_read_37 : decode cX3_read 37 = .ok (.putfield 21, 3) := by decide +kernel
theorem dX3_read_40 : decode cX3_read 40 = .ok (.aload_n 0, 1) := by decide +kernel
theorem dX3_read_41 : decode cX3_read 41 = .ok (.aload_n 1, 1) := by decide +kernel
theorem dX3_read_42 : decode cX3_read 42 = .ok (.iconst 5, 1) := by decide +kernel
theorem dX3_read_43 : decode cX3_read 43 = .ok (.invokevirtual 43, 3) := by decide +kernel
theorem dX3_read_46 : decode cX3_read 46 = .ok (.iconst 5, 1) := by decide +kernel
theorem dX3_read_47 : decode cX3_read 47 = .ok (.isub, 1) := by decide +kernel
theorem dX3_read_48 : decode cX3_read 48 = .ok (.putfield 24, 3) := by decide +kernel
theorem dX3_read_51 : decode cX3_read 51 = .ok (.aload_n 0, 1) := by decide +kernel
theorem dX3_read_52 : decode cX3_read 52 = .ok (.iconst 0, 1) := by decide +kernel
theorem dX3_read_53 : decode cX3_read 53 = .ok (.bipush 8, 2) := by decide +kernel
theorem dX3_read_55 : decode cX3_read 55 = .ok (.aload_n 1, 1) := by decide +kernel
theorem dX3_read_56 : decode cX3_read 56 = .ok (.invokevirtual 49, 3) := by decide +kernel
theorem dX3_read_59 : decode cX3_read 59 = .ok (.invokestatic 52, 3) := by decide +kernel
theorem dX3_read_62 : decode cX3_read 62 = .ok (.invokestatic 58, 3) := by decide +kernel
theorem dX3_read_65 : decode cX3_read 65 = .ok (.putfield 27, 3) := by decide +kernel
theorem dX3_read_68 : decode cX3_read 68 = .ok (.iconst 0, 1) := by decide +kernel
theorem dX3_read_69 : decode cX3_read 69 = .ok (.istore_n 2, 1) := by decide +kernel
theorem dX3_read_70 : decode cX3_read 70 = .ok (.iload_n 2, 1) := by decide +kernel
theorem dX3_read_71 : decode cX3_read 71 = .ok (.aload_n 0, 1) := by decide +kernel
theorem dX3_read_72 : decode cX3_read 72 = .ok (.getfield 27, 3) := by decide +kernel
theorem dX3_read_75 : decode cX3_read 75 = .ok (.if_icmp .ge 82, 3) := by decide +kernel
theorem dX3_read_78 : decode cX3_read 78 = .ok (.iload_n 2, 1) := by decide +kernel
theorem dX3_read_79 : decode cX3_read 79 = .ok (.bipush 8, 2) := by decide +kernel
theorem dX3_read_81 : decode cX3_read 81 = .ok (.if_icmp .ge 76, 3) := by decide +kernel
theorem dX3_read_84 : decode cX3_read 84 = .ok (.bipush 6, 2) := by decide +kernel
theorem dX3_read_86 : decode cX3_read 86 = .ok (.iconst 4, 1) := by decide +kernel
theorem dX3_read_87 : decode cX3_read 87 = .ok (.iload_n 2, 1) := by decide +kernel
theorem dX3_read_88 : decode cX3_read 88 = .ok (.imul, 1) := by decide +kernel
theorem dX3_read_89 : decode cX3_read 89 = .ok (.iadd, 1) := by decide +kernel
theorem dX3_read_90 : decode cX3_read 90 = .ok (.istore_n 3, 1) := by decide +kernel
theorem dX3_read_91 : decode cX3_read 91 = .ok (.aload_n 0, 1) := by decide +kernel
theorem dX3_read_92 : decode cX3_read 92 = .ok (.getfield 30, 3) := by decide +kernel
theorem dX3_read_95 : decode cX3_read 95 = .ok (.iload_n 2, 1) := by decide +kernel
theorem dX3_read_96 : decode cX3_read 96 = .ok (.aload_n 1, 1) := by decide +kernel
theorem dX3_read_97 : decode cX3_read 97 = .ok (.iload_n 3, 1) := by decide +kernel
theorem dX3_read_98 : decode cX3_read 98 = .ok (.iconst 1, 1) := by decide +kernel
theorem dX3_read_99 : decode cX3_read 99 = .ok (.iadd, 1) := by decide +kernel
theorem dX3_read_100 : decode cX3_read 100 = .ok (.invokevirtual 43, 3) := by decide +kernel
theorem dX3_read_103 : decode cX3_read 103 = .ok (.iastore, 1) := by decide +kernel
theorem dX3_read_104 : decode cX3_read 104 = .ok (.aload_n 0, 1) := by decide +kernel
theorem dX3_read_105 : decode cX3_read 105 = .ok (.getfield 34, 3) := by decide +kernel
theorem dX3_read_108 : decode cX3_read 108 = .ok (.iload_n 2, 1) := by decide +kernel
theorem dX3_read_109 : decode cX3_read 109 = .ok (.aload_n 1, 1) := by decide +kernel
theorem dX3_read_110 : decode cX3_read 110 = .ok (.iload_n 3, 1) := by decide +kernel
theorem dX3_read_111 : decode cX3_read 111 = .ok (.iconst 2, 1) := by decide +kernel
theorem dX3_read_112 : decode cX3_read 112 = .ok (.iadd, 1) := by decide +kernel
theorem dX3_read_113 : decode cX3_read 113 = .ok (.invokevirtual 43, 3) := by decide +kernel
theorem dX3_read_116 : decode cX3_read 116 = .ok (.iastore, 1) := by decide +kernel
theorem dX3_read_117 : decode cX3_read 117 = .ok (.aload_n 0, 1) := by decide +kernel
theorem dX3_read_118 : decode cX3_read 118 = .ok (.getfield 37, 3) := by decide +kernel
theorem dX3_read_121 : decode cX3_read 121 = .ok (.iload_n 2, 1) := by decide +kernel
theorem dX3_read_122 : decode cX3_read 122 = .ok (.aload_n 1, 1) := by decide +kernel
theorem dX3_read_123 : decode cX3_read 123 = .ok (.iload_n 3, 1) := by decide +kernel
theorem dX3_read_124 : decode cX3_read 124 = .ok (.iconst 3, 1) := by decide +kernel
theorem dX3_read_125 : decode cX3_read 125 = .ok (.iadd, 1) := by decide +kernel
theorem dX3_read_126 : decode cX3_read 126 = .ok (.invokevirtual 43, 3) := by decide +kernel
theorem dX3_read_129 : decode cX3_read 129 = .ok (.iastore, 1) := by decide +kernel
theorem dX3_read_130 : decode cX3_read 130 = .ok (.aload_n 0, 1) := by decide +kernel
theorem dX3_read_131 : decode cX3_read 131 = .ok (.getfield 40, 3) := by decide +kernel
theorem dX3_read_134 : decode cX3_read 134 = .ok (.iload_n 2, 1) := by decide +kernel
theorem dX3_read_135 : decode cX3_read 135 = .ok (.aload_n 0, 1) := by decide +kernel
theorem dX3_read_136 : decode cX3_read 136 = .ok (.getfield 30, 3) := by decide +kernel
theorem dX3_read_139 : decode cX3_read 139 = .ok (.iload_n 2, 1) := by decide +kernel
theorem dX3_read_140 : decode cX3_read 140 = .ok (.iaload, 1) := by decide +kernel
theorem dX3_read_141 : decode cX3_read 141 = .ok (.aload_n 0, 1) := by decide +kernel
theorem dX3_read_142 : decode cX3_read 142 = .ok (.getfield 34, 3) := by decide +kernel
theorem dX3_read_145 : decode cX3_read 145 = .ok (.iload_n 2, 1) := by decide +kernel
theorem dX3_read_146 : decode cX3_read 146 = .ok (.iaload, 1) := by decide +kernel
theorem dX3_read_147 : decode cX3_read 147 = .ok (.invokestatic 61, 3) := by decide +kernel
theorem dX3_read_150 : decode cX3_read 150 = .ok (.iastore, 1) := by decide +kernel
theorem dX3_read_151 : decode cX3_read 151 = .ok (.iinc 2 1, 3) := by decide +kernel
theorem dX3_read_154 : decode cX3_read 154 = .ok (.goto (-84), 3) := by decide +kernel
theorem dX3_read_157 : decode cX3_read 157 = .ok (.return_, 1) := by decide +kernel
theorem dX3_has_0 : decode cX3_has 0 = .ok (.iload_n 1, 1) := by decide +kernel
theorem dX3_has_1 : decode cX3_has 1 = .ok (.ifCond .lt 21, 3) := by decide +kernel
theorem dX3_has_4 : decode cX3_has 4 = .ok (.iload_n 1, 1) := by decide +kernel
theorem dX3_has_5 : decode cX3_has 5 = .ok (.aload_n 0, 1) := by decide +kernel
theorem dX3_has_6 : decode cX3_has 6 = .ok (.getfield 27, 3) := by decide +kernel
theorem dX3_has_9 : decode cX3_has 9 = .ok (.if_icmp .ge 13, 3) := by decide +kernel
theorem dX3_has_12 : decode cX3_has 12 = .ok (.iload_n 1, 1) := by decide +kernel
theorem dX3_has_13 : decode cX3_has 13 = .ok (.bipush 8, 2) := by decide +kernel
theorem dX3_has_15 : decode cX3_has 15 = .ok (.if_icmp .ge 7, 3) := by decide +kernel
theorem dX3_has_18 : decode cX3_has 18 = .ok (.iconst 1, 1) := by decide +kernel
theorem dX3_has_19 : decode cX3_has 19 = .ok (.goto 4, 3) := by decide +kernel
theorem dX3_has_22 : decode cX3_has 22 = .ok (.iconst 0, 1) := by decide +kernel
theorem dX3_has_23 : decode cX3_has 23 = .ok (.ireturn, 1) := by decide +kernel
set_option maxRecDepth 20000 in
theorem ggX3_kindOf_X3_has : GoodIn wsX3_kindOf wsX3_has := goodIn_r _ [6, 7, 8, 9, 10, 11, 12, 13, 14, 15, 16, 17] (by decide +kernel) (by decide +kernel)
set_option maxRecDepth 20000 in
theorem gX3_kindOf_X3_has : GoodIn wsX3_kindOf (wsV RX3 64 RX3 yX3_has wsX3_has) := goodIn_app (goodIn_of _ (by decide +kernel)) ggX3_kindOf_X3_has
theorem dX3_kindOf_0 : decode cX3_kindOf 0 = .ok (.aload_n 0, 1) := by decide +kernel
theorem dX3_kindOf_1 : decode cX3_kindOf 1 = .ok (.iload_n 1, 1) := by decide +kernel
theorem dX3_kindOf_2 : decode cX3_kindOf 2 = .ok (.invokevirtual 64, 3) := by decide +kernel
theorem dX3_kindOf_5 : decode cX3_kindOf 5 = .ok (.ifCond .eq 12, 3) := by decide +kernel
theorem dX3_kindOf_8 : decode cX3_kindOf 8 = .ok (.aload_n 0, 1) := by decide +kernel
theorem dX3_kindOf_9 : decode cX3_kindOf 9 = .ok (.getfield 30, 3) := by decide +kernel
theorem dX3_kindOf_12 : decode cX3_kindOf 12 = .ok (.iload_n 1, 1) := by decide +kernel
theorem dX3_kindOf_13 : decode cX3_kindOf 13 = .ok (.iaload, 1) := by decide +kernel
theorem dX3_kindOf_14 : decode cX3_kindOf 14 = .ok (.goto 4, 3) := by decide +kernel
theorem dX3_kindOf_17 : decode cX3_kindOf 17 = .ok (.iconst 0, 1) := by decide +kernel
theorem dX3_kindOf_18 : decode cX3_kindOf 18 = .ok (.ireturn, 1) := by decide +kernel
set_option maxRecDepth 20000 in
theorem ggX3_valueOf_X3_has : GoodIn wsX3_valueOf wsX3_has := goodIn_r _ [6, 7, 8, 9, 10, 11, 12, 13, 14, 15, 16, 17] (by decide +kernel) (by decide +kernel)
set_option maxRecDepth 20000 in
theorem gX3_valueOf_X3_has : GoodIn wsX3_valueOf (wsV RX3 64 RX3 yX3_has wsX3_has) := goodIn_app (goodIn_of _ (by decide +kernel)) ggX3_valueOf_X3_has
theorem dX3_valueOf_0 : decode cX3_valueOf 0 = .ok (.aload_n 0, 1) := by decide +kernel
theorem dX3_valueOf_1 : decode cX3_valueOf 1 = .ok (.iload_n 1, 1) := by decide +kernel
theorem dX3_valueOf_2 : decode cX3_valueOf 2 = .ok (.invokevirtual 64, 3) := by decide +kernel
theorem dX3_valueOf_5 : decode cX3_valueOf 5 = .ok (.ifCond .eq 12, 3) := by decide +kernel
theorem dX3_valueOf_8 : decode cX3_valueOf 8 = .ok (.aload_n 0, 1) := by decide +kernel
theorem dX3_valueOf_9 : decode cX3_valueOf 9 = .ok (.getfield 34, 3) := by decide +kernel
theorem dX3_valueOf_12 : decode cX3_valueOf 12 = .ok (.iload_n 1, 1) := by decide +kernel
theorem dX3_valueOf_13 : decode cX3_valueOf 13 = .ok (.iaload, 1) := by decide +kernel
theorem dX3_valueOf_14 : decode cX3_valueOf 14 = .ok (.goto 4, 3) := by decide +kernel
theorem dX3_valueOf_17 : decode cX3_valueOf 17 = .ok (.iconst 0, 1) := by decide +kernel
theorem dX3_valueOf_18 : decode cX3_valueOf 18 = .ok (.ireturn, 1) := by decide +kernel
set_option maxRecDepth 20000 in
theorem ggX3_gorseOf_X3_has : GoodIn wsX3_gorseOf wsX3_has := goodIn_r _ [6, 7, 8, 9, 10, 11, 12, 13, 14, 15, 16, 17] (by decide +kernel) (by decide +kernel)
set_option maxRecDepth 20000 in
theorem gX3_gorseOf_X3_has : GoodIn wsX3_gorseOf (wsV RX3 64 RX3 yX3_has wsX3_has) := goodIn_app (goodIn_of _ (by decide +kernel)) ggX3_gorseOf_X3_has
theorem dX3_gorseOf_0 : decode cX3_gorseOf 0 = .ok (.aload_n 0, 1) := by decide +kernel
theorem dX3_gorseOf_1 : decode cX3_gorseOf 1 = .ok (.iload_n 1, 1) := by decide +kernel
theorem dX3_gorseOf_2 : decode cX3_gorseOf 2 = .ok (.invokevirtual 64, 3) := by decide +kernel
theorem dX3_gorseOf_5 : decode cX3_gorseOf 5 = .ok (.ifCond .eq 12, 3) := by decide +kernel
theorem dX3_gorseOf_8 : decode cX3_gorseOf 8 = .ok (.aload_n 0, 1) := by decide +kernel
theorem dX3_gorseOf_9 : decode cX3_gorseOf 9 = .ok (.getfield 37, 3) := by decide +kernel
theorem dX3_gorseOf_12 : decode cX3_gorseOf 12 = .ok (.iload_n 1, 1) := by decide +kernel
theorem dX3_gorseOf_13 : decode cX3_gorseOf 13 = .ok (.iaload, 1) := by decide +kernel
theorem dX3_gorseOf_14 : decode cX3_gorseOf 14 = .ok (.goto 4, 3) := by decide +kernel
theorem dX3_gorseOf_17 : decode cX3_gorseOf 17 = .ok (.iconst 0, 1) := by decide +kernel
theorem dX3_gorseOf_18 : decode cX3_gorseOf 18 = .ok (.ireturn, 1) := by decide +kernel
theorem dX3_bentOf_0 : decode cX3_bentOf 0 = .ok (.iload_n 1, 1) := by decide +kernel
theorem dX3_bentOf_1 : decode cX3_bentOf 1 = .ok (.ifCond .ne 10, 3) := by decide +kernel
theorem dX3_bentOf_4 : decode cX3_bentOf 4 = .ok (.aload_n 0, 1) := by decide +kernel
theorem dX3_bentOf_5 : decode cX3_bentOf 5 = .ok (.getfield 21, 3) := by decide +kernel
theorem dX3_bentOf_8 : decode cX3_bentOf 8 = .ok (.goto 7, 3) := by decide +kernel
theorem dX3_bentOf_11 : decode cX3_bentOf 11 = .ok (.aload_n 0, 1) := by decide +kernel
theorem dX3_bentOf_12 : decode cX3_bentOf 12 = .ok (.getfield 24, 3) := by decide +kernel
theorem dX3_bentOf_15 : decode cX3_bentOf 15 = .ok (.ireturn, 1) := by decide +kernel
set_option maxRecDepth 20000 in
theorem ggX3_groundAt_X3_has : GoodIn wsX3_groundAt wsX3_has := goodIn_r _ [6, 7, 8, 9, 10, 11, 12, 13, 14, 15, 16, 17] (by decide +kernel) (by decide +kernel)
set_option maxRecDepth 20000 in
theorem gX3_groundAt_X3_has : GoodIn wsX3_groundAt (wsV RX3 64 RX3 yX3_has wsX3_has) := goodIn_app (goodIn_of _ (by decide +kernel)) ggX3_groundAt_X3_has
theorem dX3_groundAt_0 : decode cX3_groundAt 0 = .ok (.aload_n 0, 1) := by decide +kernel
theorem dX3_groundAt_1 : decode cX3_groundAt 1 = .ok (.iload_n 1, 1) := by decide +kernel
theorem dX3_groundAt_2 : decode cX3_groundAt 2 = .ok (.invokevirtual 64, 3) := by decide +kernel
theorem dX3_groundAt_5 : decode cX3_groundAt 5 = .ok (.ifCond .eq 12, 3) := by decide +kernel
theorem dX3_groundAt_8 : decode cX3_groundAt 8 = .ok (.aload_n 0, 1) := by decide +kernel
theorem dX3_groundAt_9 : decode cX3_groundAt 9 = .ok (.getfield 40, 3) := by decide +kernel
theorem dX3_groundAt_12 : decode cX3_groundAt 12 = .ok (.iload_n 1, 1) := by decide +kernel
theorem dX3_groundAt_13 : decode cX3_groundAt 13 = .ok (.iaload, 1) := by decide +kernel
theorem dX3_groundAt_14 : decode cX3_groundAt 14 = .ok (.goto 4, 3) := by decide +kernel
theorem dX3_groundAt_17 : decode cX3_groundAt 17 = .ok (.iconst 0, 1) := by decide +kernel
theorem dX3_groundAt_18 : decode cX3_groundAt 18 = .ok (.ireturn, 1) := by decide +kernel
set_option maxRecDepth 20000 in
theorem ggX3_groundIfStepped_X3_valueOf : GoodIn wsX3_groundIfStepped wsX3_valueOf := goodIn_r _ [5, 6, 7, 8, 9, 4, 10, 11, 15, 16, 17, 18, 19, 20, 21, 22, 23, 24] (by decide +kernel) (by decide +kernel)
set_option maxRecDepth 20000 in
theorem gX3_groundIfStepped_X3_valueOf : GoodIn wsX3_groundIfStepped (wsV RX3 68 RX3 yX3_valueOf wsX3_valueOf) := goodIn_app (goodIn_of _ (by decide +kernel)) ggX3_groundIfStepped_X3_valueOf
set_option maxRecDepth 20000 in
theorem ggX3_groundIfStepped_X3_errorOfGround : GoodIn wsX3_groundIfStepped wsX3_errorOfGround := goodIn_r _ [14] (by decide +kernel) (by decide +kernel)
set_option maxRecDepth 20000 in
theorem gX3_groundIfStepped_X3_errorOfGround : GoodIn wsX3_groundIfStepped (va_wsS RX3 61 yX3_errorOfGround wsX3_errorOfGround) := goodIn_app (goodIn_of _ (by decide +kernel)) ggX3_groundIfStepped_X3_errorOfGround
theorem dX3_groundIfStepped_0 : decode cX3_groundIfStepped 0 = .ok (.iconst 2, 1) := by decide +kernel
theorem dX3_groundIfStepped_1 : decode cX3_groundIfStepped 1 = .ok (.aload_n 0, 1) := by decide +kernel
theorem dX3_groundIfStepped_2 : decode cX3_groundIfStepped 2 = .ok (.iload_n 1, 1) := by decide +kernel
theorem dX3_groundIfStepped_3 : decode cX3_groundIfStepped 3 = .ok (.invokevirtual 68, 3) := by decide +kernel
theorem dX3_groundIfStepped_6 : decode cX3_groundIfStepped 6 = .ok (.invokestatic 61, 3) := by decide +kernel
theorem dX3_groundIfStepped_9 : decode cX3_groundIfStepped 9 = .ok (.ireturn, 1) := by decide +kernel
theorem dX3_errorOfGround_0 : decode cX3_errorOfGround 0 = .ok (.iload_n 0, 1) := by decide +kernel
theorem dX3_errorOfGround_1 : decode cX3_errorOfGround 1 = .ok (.tableswitch 40 1 3 #[27, 32, 35], 27) := by decide +kernel
theorem dX3_errorOfGround_28 : decode cX3_errorOfGround 28 = .ok (.iload_n 1, 1) := by decide +kernel
theorem dX3_errorOfGround_29 : decode cX3_errorOfGround 29 = .ok (.ineg, 1) := by decide +kernel
theorem dX3_errorOfGround_30 : decode cX3_errorOfGround 30 = .ok (.iload_n 1, 1) := by decide +kernel
theorem dX3_errorOfGround_31 : decode cX3_errorOfGround 31 = .ok (.imul, 1) := by decide +kernel
theorem dX3_errorOfGround_32 : decode cX3_errorOfGround 32 = .ok (.ireturn, 1) := by decide +kernel
theorem dX3_errorOfGround_33 : decode cX3_errorOfGround 33 = .ok (.iload_n 1, 1) := by decide +kernel
theorem dX3_errorOfGround_34 : decode cX3_errorOfGround 34 = .ok (.ineg, 1) := by decide +kernel
theorem dX3_errorOfGround_35 : decode cX3_errorOfGround 35 = .ok (.ireturn, 1) := by decide +kernel
theorem dX3_errorOfGround_36 : decode cX3_errorOfGround 36 = .ok (.bipush (-2), 2) := by decide +kernel
theorem dX3_errorOfGround_38 : decode cX3_errorOfGround 38 = .ok (.iload_n 1, 1) := by decide +kernel
theorem dX3_errorOfGround_39 : decode cX3_errorOfGround 39 = .ok (.imul, 1) := by decide +kernel
theorem dX3_errorOfGround_40 : decode cX3_errorOfGround 40 = .ok (.ireturn, 1) := by decide +kernel
theorem dX3_errorOfGround_41 : decode cX3_errorOfGround 41 = .ok (.iconst 0, 1) := by decide +kernel
theorem dX3_errorOfGround_42 : decode cX3_errorOfGround 42 = .ok (.ireturn, 1) := by decide +kernel
theorem dX4_init_0 : decode cX4_init 0 = .ok (.aload_n 0, 1) := by decide +kernel
theorem dX4_init_1 : decode cX4_init 1 = .ok (.invokespecial 3, 3) := by decide +kernel
theorem dX4_init_4 : decode cX4_init 4 = .ok (.aload_n 0, 1) := by decide +kernel
theorem dX4_init_5 : decode cX4_init 5 = .ok (.iconst 0, 1) := by decide +kernel
theorem dX4_init_6 : decode cX4_init 6 = .ok (.putfield 9, 3) := by decide +kernel
theorem dX4_init_9 : decode cX4_init 9 = .ok (.aload_n 0, 1) := by decide +kernel
theorem dX4_init_10 : decode cX4_init 10 = .ok (.iconst 0, 1) := by decide +kernel
theorem dX4_init_11 : decode cX4_init 11 = .ok (.putfield 15, 3) := by decide +kernel
theorem dX4_init_14 : decode cX4_init 14 = .ok (.aload_n 0, 1) := by decide +kernel
theorem dX4_init_15 : decode cX4_init 15 = .ok (.iconst 0, 1) := by decide +kernel
theorem dX4_init_16 : decode cX4_init 16 = .ok (.putfield 18, 3) := by decide +kernel
theorem dX4_init_19 : decode cX4_init 19 = .ok (.aload_n 0, 1) := by decide +kernel
theorem dX4_init_20 : decode cX4_init 20 = .ok (.iconst 0, 1) := by decide +kernel
theorem dX4_init_21 : decode cX4_init 21 = .ok (.putfield 21, 3) := by decide +kernel
theorem dX4_init_24 : decode cX4_init 24 = .ok (.aload_n 0, 1) := by decide +kernel
theorem dX4_init_25 : decode cX4_init 25 = .ok (.bipush (-9), 2) := by decide +kernel
theorem dX4_init_27 : decode cX4_init 27 = .ok (.putfield 24, 3) := by decide +kernel
theorem dX4_init_30 : decode cX4_init 30 = .ok (.aload_n 0, 1) := by decide +kernel
theorem dX4_init_31 : decode cX4_init 31 = .ok (.aload_n 1, 1) := by decide +kernel
theorem dX4_init_32 : decode cX4_init 32 = .ok (.putfield 27, 3) := by decide +kernel
theorem dX4_init_35 : decode cX4_init 35 = .ok (.return_, 1) := by decide +kernel
set_option maxRecDepth 20000 in
theorem ggX4_seekRests_X1_planByTurns : GoodIn wsX4_seekRests wsX1_planByTurns := goodIn_r _ [11, 12, 76, 77, 78, 79, 80, 81, 82, 83, 84, 85, 86, 87] (by decide +kernel) (by decide +kernel)
set_option maxRecDepth 20000 in
theorem gX4_seekRests_X1_planByTurns : GoodIn wsX4_seekRests (wsV RX4 31 RX1 yX1_planByTurns wsX1_planByTurns) := goodIn_app (goodIn_of _ (by decide +kernel)) ggX4_seekRests_X1_planByTurns
set_option maxRecDepth 20000 in
theorem ggX4_seekRests_X1_offBy : GoodIn wsX4_seekRests wsX1_offBy := goodIn_r _ [16, 12, 17, 18, 19, 10, 20, 21, 22, 23, 24, 25, 26, 27, 28, 29, 30, 31, 32, 33, 34, 35, 36, 37, 38, 39, 40, 41, 42, 76, 77, 78, 79, 80, 81, 82, 83, 84, 85, 86, 87, 88, 89, 90, 91, 92, 93, 94, 95, 96, 97] (by decide +kernel) (by decide +kernel)
set_option maxRecDepth 20000 in
theorem gX4_seekRests_X1_offBy : GoodIn wsX4_seekRests (wsV RX4 37 RX1 yX1_offBy wsX1_offBy) := goodIn_app (goodIn_of _ (by decide +kernel)) ggX4_seekRests_X1_offBy
set_option maxRecDepth 20000 in
theorem ggX4_seekRests_J6_bitCount_0f7a4 : GoodIn wsX4_seekRests wsJ6_bitCount_0f7a4 := goodIn_r _ [46, 47, 48, 49] (by decide +kernel) (by decide +kernel)
set_option maxRecDepth 20000 in
theorem gX4_seekRests_J6_bitCount_0f7a4 : GoodIn wsX4_seekRests (va_wsS RX4 41 yJ6_bitCount_0f7a4 wsJ6_bitCount_0f7a4) := goodIn_app (goodIn_of _ (by decide +kernel)) ggX4_seekRests_J6_bitCount_0f7a4
set_option maxRecDepth 20000 in
theorem ggX4_seekRests_X4_isAtRest : GoodIn wsX4_seekRests wsX4_isAtRest := goodIn_r _ [54, 55, 56, 57, 53, 58, 2, 4, 3, 59, 60, 61, 62, 63, 64, 65, 70, 71, 72, 73, 74, 75] (by decide +kernel) (by decide +kernel)
set_option maxRecDepth 20000 in
theorem gX4_seekRests_X4_isAtRest : GoodIn wsX4_seekRests (wsV RX4 46 RX4 yX4_isAtRest wsX4_isAtRest) := goodIn_app (goodIn_of _ (by decide +kernel)) ggX4_seekRests_X4_isAtRest
set_option maxRecDepth 20000 in
theorem ggX4_seekRests_X4_countRest : GoodIn wsX4_seekRests wsX4_countRest := goodIn_r _ [69, 5, 6, 70, 71, 72, 73, 74, 75] (by decide +kernel) (by decide +kernel)
set_option maxRecDepth 20000 in
theorem gX4_seekRests_X4_countRest : GoodIn wsX4_seekRests (wsV RX4 50 RX4 yX4_countRest wsX4_countRest) := goodIn_app (goodIn_of _ (by decide +kernel)) ggX4_seekRests_X4_countRest
theorem dX4_seekRests_0 : decode cX4_seekRests 0 = .ok (.aload_n 0, 1) := by decide +kernel
theorem dX4_seekRests_1 : decode cX4_seekRests 1 = .ok (.getfield 27, 3) := by decide +kernel
theorem dX4_seekRests_4 : decode cX4_seekRests 4 = .ok (.iload_n 1, 1) := by decide +kernel
theorem dX4_seekRests_5 : decode cX4_seekRests 5 = .ok (.invokevirtual 31, 3) := by decide +kernel
theorem dX4_seekRests_8 : decode cX4_seekRests 8 = .ok (.istore_n 2, 1) := by decide +kernel
theorem dX4_seekRests_9 : decode cX4_seekRests 9 = .ok (.aload_n 0, 1) := by decide +kernel
theorem dX4_seekRests_10 : decode cX4_seekRests 10 = .ok (.aload_n 0, 1) := by decide +kernel
theorem dX4_seekRests_11 : decode cX4_seekRests 11 = .ok (.getfield 27, 3) := by decide +kernel
theorem dX4_seekRests_14 : decode cX4_seekRests 14 = .ok (.iload_n 1, 1) := by decide +kernel
theorem dX4_seekRests_15 : decode cX4_seekRests 15 = .ok (.iload_n 2, 1) := by decide +kernel
theorem dX4_seekRests_16 : decode cX4_seekRests 16 = .ok (.invokevirtual 37, 3) := by decide +kernel
theorem dX4_seekRests_19 : decode cX4_seekRests 19 = .ok (.putfield 9, 3) := by decide +kernel
theorem dX4_seekRests_22 : decode cX4_seekRests 22 = .ok (.aload_n 0, 1) := by decide +kernel
theorem dX4_seekRests_23 : decode cX4_seekRests 23 = .ok (.iload_n 2, 1) := by decide +kernel
theorem dX4_seekRests_24 : decode cX4_seekRests 24 = .ok (.invokestatic 41, 3) := by decide +kernel
theorem dX4_seekRests_27 : decode cX4_seekRests 27 = .ok (.putfield 18, 3) := by decide +kernel
theorem dX4_seekRests_30 : decode cX4_seekRests 30 = .ok (.aload_n 0, 1) := by decide +kernel
theorem dX4_seekRests_31 : decode cX4_seekRests 31 = .ok (.iload_n 1, 1) := by decide +kernel
theorem dX4_seekRests_32 : decode cX4_seekRests 32 = .ok (.aload_n 0, 1) := by decide +kernel
theorem dX4_seekRests_33 : decode cX4_seekRests 33 = .ok (.getfield 18, 3) := by decide +kernel
theorem dX4_seekRests_36 : decode cX4_seekRests 36 = .ok (.isub, 1) := by decide +kernel
theorem dX4_seekRests_37 : decode cX4_seekRests 37 = .ok (.putfield 15, 3) := by decide +kernel
theorem dX4_seekRests_40 : decode cX4_seekRests 40 = .ok (.aload_n 0, 1) := by decide +kernel
theorem dX4_seekRests_41 : decode cX4_seekRests 41 = .ok (.iconst 0, 1) := by decide +kernel
theorem dX4_seekRests_42 : decode cX4_seekRests 42 = .ok (.putfield 21, 3) := by decide +kernel
theorem dX4_seekRests_45 : decode cX4_seekRests 45 = .ok (.aload_n 0, 1) := by decide +kernel
theorem dX4_seekRests_46 : decode cX4_seekRests 46 = .ok (.bipush (-9), 2) := by decide +kernel
theorem dX4_seekRests_48 : decode cX4_seekRests 48 = .ok (.putfield 24, 3) := by decide +kernel
theorem dX4_seekRests_51 : decode cX4_seekRests 51 = .ok (.bipush (-2), 2) := by decide +kernel
theorem dX4_seekRests_53 : decode cX4_seekRests 53 = .ok (.istore_n 3, 1) := by decide +kernel
theorem dX4_seekRests_54 : decode cX4_seekRests 54 = .ok (.iload_n 3, 1) := by decide +kernel
theorem dX4_seekRests_55 : decode cX4_seekRests 55 = .ok (.iconst 2, 1) := by decide +kernel
theorem dX4_seekRests_56 : decode cX4_seekRests 56 = .ok (.if_icmp .gt 42, 3) := by decide +kernel
theorem dX4_seekRests_59 : decode cX4_seekRests 59 = .ok (.bipush (-2), 2) := by decide +kernel
theorem dX4_seekRests_61 : decode cX4_seekRests 61 = .ok (.istore 4, 2) := by decide +kernel
theorem dX4_seekRests_63 : decode cX4_seekRests 63 = .ok (.iload 4, 2) := by decide +kernel
theorem dX4_seekRests_65 : decode cX4_seekRests 65 = .ok (.iconst 2, 1) := by decide +kernel
theorem dX4_seekRests_66 : decode cX4_seekRests 66 = .ok (.if_icmp .gt 26, 3) := by decide +kernel
theorem dX4_seekRests_69 : decode cX4_seekRests 69 = .ok (.aload_n 0, 1) := by decide +kernel
theorem dX4_seekRests_70 : decode cX4_seekRests 70 = .ok (.iload_n 3, 1) := by decide +kernel
theorem dX4_seekRests_71 : decode cX4_seekRests 71 = .ok (.iload 4, 2) := by decide +kernel
theorem dX4_seekRests_73 : decode cX4_seekRests 73 = .ok (.invokevirtual 46, 3) := by decide +kernel
theorem dX4_seekRests_76 : decode cX4_seekRests 76 = .ok (.ifCond .eq 10, 3) := by decide +kernel
theorem dX4_seekRests_79 : decode cX4_seekRests 79 = .ok (.aload_n 0, 1) := by decide +kernel
theorem dX4_seekRests_80 : decode cX4_seekRests 80 = .ok (.iload_n 3, 1) := by decide +kernel
theorem dX4_seekRests_81 : decode cX4_seekRests 81 = .ok (.iload 4, 2) := by decide +kernel
theorem dX4_seekRests_83 : decode cX4_seekRests 83 = .ok (.invokevirtual 50, 3) := by decide +kernel
theorem dX4_seekRests_86 : decode cX4_seekRests 86 = .ok (.iinc 4 1, 3) := by decide +kernel
theorem dX4_seekRests_89 : decode cX4_seekRests 89 = .ok (.goto (-26), 3) := by decide +kernel
theorem dX4_seekRests_92 : decode cX4_seekRests 92 = .ok (.iinc 3 1, 3) := by decide +kernel
theorem dX4_seekRests_95 : decode cX4_seekRests 95 = .ok (.goto (-41), 3) := by decide +kernel
theorem dX4_seekRests_98 : decode cX4_seekRests 98 = .ok (.return_, 1) := by decide +kernel
theorem dX4_countRest_0 : decode cX4_countRest 0 = .ok (.aload_n 0, 1) := by decide +kernel
theorem dX4_countRest_1 : decode cX4_countRest 1 = .ok (.getfield 21, 3) := by decide +kernel
theorem dX4_countRest_4 : decode cX4_countRest 4 = .ok (.ifCond .ne 17, 3) := by decide +kernel
theorem dX4_countRest_7 : decode cX4_countRest 7 = .ok (.aload_n 0, 1) := by decide +kernel
theorem dX4_countRest_8 : decode cX4_countRest 8 = .ok (.bipush 10, 2) := by decide +kernel
theorem dX4_countRest_10 : decode cX4_countRest 10 = .ok (.iload_n 1, 1) := by decide +kernel
theorem dX4_countRest_11 : decode cX4_countRest 11 = .ok (.iconst 2, 1) := by decide +kernel
theorem dX4_countRest_12 : decode cX4_countRest 12 = .ok (.iadd, 1) := by decide +kernel
theorem dX4_countRest_13 : decode cX4_countRest 13 = .ok (.imul, 1) := by decide +kernel
theorem dX4_countRest_14 : decode cX4_countRest 14 = .ok (.iload_n 2, 1) := by decide +kernel
theorem dX4_countRest_15 : decode cX4_countRest 15 = .ok (.iadd, 1) := by decide +kernel
theorem dX4_countRest_16 : decode cX4_countRest 16 = .ok (.iconst 2, 1) := by decide +kernel
theorem dX4_countRest_17 : decode cX4_countRest 17 = .ok (.iadd, 1) := by decide +kernel
theorem dX4_countRest_18 : decode cX4_countRest 18 = .ok (.putfield 24, 3) := by decide +kernel
theorem dX4_countRest_21 : decode cX4_countRest 21 = .ok (.aload_n 0, 1) := by decide +kernel
theorem dX4_countRest_22 : decode cX4_countRest 22 = .ok (.dup, 1) := by decide +kernel
theorem dX4_countRest_23 : decode cX4_countRest 23 = .ok (.getfield 21, 3) := by decide +kernel
theorem dX4_countRest_26 : decode cX4_countRest 26 = .ok (.iconst 1, 1) := by decide +kernel
theorem dX4_countRest_27 : decode cX4_countRest 27 = .ok (.iadd, 1) := by decide +kernel
theorem dX4_countRest_28 : decode cX4_countRest 28 = .ok (.putfield 21, 3) := by decide +kernel
theorem dX4_countRest_31 : decode cX4_countRest 31 = .ok (.return_, 1) := by decide +kernel
set_option maxRecDepth 20000 in
theorem ggX4_isAtRest_X4_offMended : GoodIn wsX4_isAtRest wsX4_offMended := goodIn_r _ [5, 6, 7, 8, 16, 17, 18, 19, 20, 21] (by decide +kernel) (by decide +kernel)
set_option maxRecDepth 20000 in
theorem gX4_isAtRest_X4_offMended : GoodIn wsX4_isAtRest (wsV RX4 54 RX4 yX4_offMended wsX4_offMended) := goodIn_app (goodIn_of _ (by decide +kernel)) ggX4_isAtRest_X4_offMended
set_option maxRecDepth 20000 in
theorem ggX4_isAtRest_X4_lossOf : GoodIn wsX4_isAtRest wsX4_lossOf := goodIn_r _ [11, 12, 13, 14, 15] (by decide +kernel) (by decide +kernel)
set_option maxRecDepth 20000 in
theorem gX4_isAtRest_X4_lossOf : GoodIn wsX4_isAtRest (va_wsS RX4 57 yX4_lossOf wsX4_lossOf) := goodIn_app (goodIn_of _ (by decide +kernel)) ggX4_isAtRest_X4_lossOf
theorem dX4_isAtRest_0 : decode cX4_isAtRest 0 = .ok (.bipush (-2), 2) := by decide +kernel
theorem dX4_isAtRest_2 : decode cX4_isAtRest 2 = .ok (.istore_n 3, 1) := by decide +kernel
theorem dX4_isAtRest_3 : decode cX4_isAtRest 3 = .ok (.iload_n 3, 1) := by decide +kernel
theorem dX4_isAtRest_4 : decode cX4_isAtRest 4 = .ok (.iconst 2, 1) := by decide +kernel
theorem dX4_isAtRest_5 : decode cX4_isAtRest 5 = .ok (.if_icmp .gt 59, 3) := by decide +kernel
theorem dX4_isAtRest_8 : decode cX4_isAtRest 8 = .ok (.iload_n 3, 1) := by decide +kernel
theorem dX4_isAtRest_9 : decode cX4_isAtRest 9 = .ok (.aload_n 0, 1) := by decide +kernel
theorem dX4_isAtRest_10 : decode cX4_isAtRest 10 = .ok (.iload_n 3, 1) := by decide +kernel
theorem dX4_isAtRest_11 : decode cX4_isAtRest 11 = .ok (.iload_n 2, 1) := by decide +kernel
theorem dX4_isAtRest_12 : decode cX4_isAtRest 12 = .ok (.invokevirtual 54, 3) := by decide +kernel
theorem dX4_isAtRest_15 : decode cX4_isAtRest 15 = .ok (.invokestatic 57, 3) := by decide +kernel
theorem dX4_isAtRest_18 : decode cX4_isAtRest 18 = .ok (.iload_n 1, 1) := by decide +kernel
theorem dX4_isAtRest_19 : decode cX4_isAtRest 19 = .ok (.aload_n 0, 1) := by decide +kernel
theorem dX4_isAtRest_20 : decode cX4_isAtRest 20 = .ok (.iload_n 1, 1) := by decide +kernel
theorem dX4_isAtRest_21 : decode cX4_isAtRest 21 = .ok (.iload_n 2, 1) := by decide +kernel
theorem dX4_isAtRest_22 : decode cX4_isAtRest 22 = .ok (.invokevirtual 54, 3) := by decide +kernel
theorem dX4_isAtRest_25 : decode cX4_isAtRest 25 = .ok (.invokestatic 57, 3) := by decide +kernel
theorem dX4_isAtRest_28 : decode cX4_isAtRest 28 = .ok (.if_icmp .ge 5, 3) := by decide +kernel
theorem dX4_isAtRest_31 : decode cX4_isAtRest 31 = .ok (.iconst 0, 1) := by decide +kernel
theorem dX4_isAtRest_32 : decode cX4_isAtRest 32 = .ok (.ireturn, 1) := by decide +kernel
theorem dX4_isAtRest_33 : decode cX4_isAtRest 33 = .ok (.iload_n 3, 1) := by decide +kernel
theorem dX4_isAtRest_34 : decode cX4_isAtRest 34 = .ok (.aload_n 0, 1) := by decide +kernel
theorem dX4_isAtRest_35 : decode cX4_isAtRest 35 = .ok (.iload_n 1, 1) := by decide +kernel
theorem dX4_isAtRest_36 : decode cX4_isAtRest 36 = .ok (.iload_n 3, 1) := by decide +kernel
theorem dX4_isAtRest_37 : decode cX4_isAtRest 37 = .ok (.invokevirtual 54, 3) := by decide +kernel
theorem dX4_isAtRest_40 : decode cX4_isAtRest 40 = .ok (.invokestatic 57, 3) := by decide +kernel
theorem dX4_isAtRest_43 : decode cX4_isAtRest 43 = .ok (.iload_n 2, 1) := by decide +kernel
theorem dX4_isAtRest_44 : decode cX4_isAtRest 44 = .ok (.aload_n 0, 1) := by decide +kernel
theorem dX4_isAtRest_45 : decode cX4_isAtRest 45 = .ok (.iload_n 1, 1) := by decide +kernel
theorem dX4_isAtRest_46 : decode cX4_isAtRest 46 = .ok (.iload_n 2, 1) := by decide +kernel
theorem dX4_isAtRest_47 : decode cX4_isAtRest 47 = .ok (.invokevirtual 54, 3) := by decide +kernel
theorem dX4_isAtRest_50 : decode cX4_isAtRest 50 = .ok (.invokestatic 57, 3) := by decide +kernel
theorem dX4_isAtRest_53 : decode cX4_isAtRest 53 = .ok (.if_icmp .ge 5, 3) := by decide +kernel
theorem dX4_isAtRest_56 : decode cX4_isAtRest 56 = .ok (.iconst 0, 1) := by decide +kernel
theorem dX4_isAtRest_57 : decode cX4_isAtRest 57 = .ok (.ireturn, 1) := by decide +kernel
theorem dX4_isAtRest_58 : decode cX4_isAtRest 58 = .ok (.iinc 3 1, 3) := by decide +kernel
theorem dX4_isAtRest_61 : decode cX4_isAtRest 61 = .ok (.goto (-58), 3) := by decide +kernel
theorem dX4_isAtRest_64 : decode cX4_isAtRest 64 = .ok (.iconst 1, 1) := by decide +kernel
theorem dX4_isAtRest_65 : decode cX4_isAtRest 65 = .ok (.ireturn, 1) := by decide +kernel
theorem dX4_offMended_0 : decode cX4_offMended 0 = .ok (.aload_n 0, 1) := by decide +kernel
theorem dX4_offMended_1 : decode cX4_offMended 1 = .ok (.getfield 9, 3) := by decide +kernel
theorem dX4_offMended_4 : decode cX4_offMended 4 = .ok (.aload_n 0, 1) := by decide +kernel
theorem dX4_offMended_5 : decode cX4_offMended 5 = .ok (.getfield 15, 3) := by decide +kernel
theorem dX4_offMended_8 : decode cX4_offMended 8 = .ok (.iload_n 1, 1) := by decide +kernel
theorem dX4_offMended_9 : decode cX4_offMended 9 = .ok (.imul, 1) := by decide +kernel
theorem dX4_offMended_10 : decode cX4_offMended 10 = .ok (.iadd, 1) := by decide +kernel
theorem dX4_offMended_11 : decode cX4_offMended 11 = .ok (.aload_n 0, 1) := by decide +kernel
theorem dX4_offMended_12 : decode cX4_offMended 12 = .ok (.getfield 18, 3) := by decide +kernel
theorem dX4_offMended_15 : decode cX4_offMended 15 = .ok (.iload_n 2, 1) := by decide +kernel
theorem dX4_offMended_16 : decode cX4_offMended 16 = .ok (.imul, 1) := by decide +kernel
theorem dX4_offMended_17 : decode cX4_offMended 17 = .ok (.iadd, 1) := by decide +kernel
theorem dX4_offMended_18 : decode cX4_offMended 18 = .ok (.ireturn, 1) := by decide +kernel
theorem dX4_lossOf_0 : decode cX4_lossOf 0 = .ok (.iload_n 1, 1) := by decide +kernel
theorem dX4_lossOf_1 : decode cX4_lossOf 1 = .ok (.invokestatic 60, 3) := by decide +kernel
theorem dX4_lossOf_4 : decode cX4_lossOf 4 = .ok (.iconst 2, 1) := by decide +kernel
theorem dX4_lossOf_5 : decode cX4_lossOf 5 = .ok (.iload_n 0, 1) := by decide +kernel
theorem dX4_lossOf_6 : decode cX4_lossOf 6 = .ok (.invokestatic 60, 3) := by decide +kernel
theorem dX4_lossOf_9 : decode cX4_lossOf 9 = .ok (.imul, 1) := by decide +kernel
theorem dX4_lossOf_10 : decode cX4_lossOf 10 = .ok (.iadd, 1) := by decide +kernel
theorem dX4_lossOf_11 : decode cX4_lossOf 11 = .ok (.ireturn, 1) := by decide +kernel
theorem dX5_init_0 : decode cX5_init 0 = .ok (.aload_n 0, 1) := by decide +kernel
theorem dX5_init_1 : decode cX5_init 1 = .ok (.invokespecial 3, 3) := by decide +kernel
theorem dX5_init_4 : decode cX5_init 4 = .ok (.aload_n 0, 1) := by decide +kernel
theorem dX5_init_5 : decode cX5_init 5 = .ok (.bipush 32, 2) := by decide +kernel
theorem dX5_init_7 : decode cX5_init 7 = .ok (.newarray .int, 2) := by decide +kernel
theorem dX5_init_9 : decode cX5_init 9 = .ok (.putfield 11, 3) := by decide +kernel
theorem dX5_init_12 : decode cX5_init 12 = .ok (.aload_n 0, 1) := by decide +kernel
theorem dX5_init_13 : decode cX5_init 13 = .ok (.iconst 0, 1) := by decide +kernel
theorem dX5_init_14 : decode cX5_init 14 = .ok (.putfield 17, 3) := by decide +kernel
theorem dX5_init_17 : decode cX5_init 17 = .ok (.return_, 1) := by decide +kernel
theorem dX5_has_0 : decode cX5_has 0 = .ok (.iload_n 1, 1) := by decide +kernel
theorem dX5_has_1 : decode cX5_has 1 = .ok (.ifCond .lt 12, 3) := by decide +kernel
theorem dX5_has_4 : decode cX5_has 4 = .ok (.iload_n 1, 1) := by decide +kernel
theorem dX5_has_5 : decode cX5_has 5 = .ok (.iconst 2, 1) := by decide +kernel
theorem dX5_has_6 : decode cX5_has 6 = .ok (.if_icmp .ge 7, 3) := by decide +kernel
theorem dX5_has_9 : decode cX5_has 9 = .ok (.iconst 1, 1) := by decide +kernel
theorem dX5_has_10 : decode cX5_has 10 = .ok (.goto 4, 3) := by decide +kernel
theorem dX5_has_13 : decode cX5_has 13 = .ok (.iconst 0, 1) := by decide +kernel
theorem dX5_has_14 : decode cX5_has 14 = .ok (.ireturn, 1) := by decide +kernel
set_option maxRecDepth 20000 in
theorem ggX5_holds_X5_has : GoodIn wsX5_holds wsX5_has := goodIn_r _ [6] (by decide +kernel) (by decide +kernel)
set_option maxRecDepth 20000 in
theorem gX5_holds_X5_has : GoodIn wsX5_holds (wsV RX5 21 RX5 yX5_has wsX5_has) := goodIn_app (goodIn_of _ (by decide +kernel)) ggX5_holds_X5_has
theorem dX5_holds_0 : decode cX5_holds 0 = .ok (.aload_n 0, 1) := by decide +kernel
theorem dX5_holds_1 : decode cX5_holds 1 = .ok (.iload_n 1, 1) := by decide +kernel
theorem dX5_holds_2 : decode cX5_holds 2 = .ok (.invokevirtual 21, 3) := by decide +kernel
theorem dX5_holds_5 : decode cX5_holds 5 = .ok (.ifCond .eq 19, 3) := by decide +kernel
theorem dX5_holds_8 : decode cX5_holds 8 = .ok (.aload_n 0, 1) := by decide +kernel
theorem dX5_holds_9 : decode cX5_holds 9 = .ok (.getfield 17, 3) := by decide +kernel
theorem dX5_holds_12 : decode cX5_holds 12 = .ok (.iload_n 1, 1) := by decide +kernel
theorem dX5_holds_13 : decode cX5_holds 13 = .ok (.ishr, 1) := by decide +kernel
theorem dX5_holds_14 : decode cX5_holds 14 = .ok (.iconst 1, 1) := by decide +kernel
theorem dX5_holds_15 : decode cX5_holds 15 = .ok (.iand, 1) := by decide +kernel
theorem dX5_holds_16 : decode cX5_holds 16 = .ok (.iconst 1, 1) := by decide +kernel
theorem dX5_holds_17 : decode cX5_holds 17 = .ok (.if_icmp .ne 7, 3) := by decide +kernel
theorem dX5_holds_20 : decode cX5_holds 20 = .ok (.iconst 1, 1) := by decide +kernel
theorem dX5_holds_21 : decode cX5_holds 21 = .ok (.goto 4, 3) := by decide +kernel
theorem dX5_holds_24 : decode cX5_holds 24 = .ok (.iconst 0, 1) := by decide +kernel
theorem dX5_holds_25 : decode cX5_holds 25 = .ok (.ireturn, 1) := by decide +kernel
set_option maxRecDepth 20000 in
theorem ggX5_store_X8_saveTo : GoodIn wsX5_store wsX8_saveTo := goodIn_r _ [7, 8, 9, 10, 11, 12, 13, 14, 15, 16, 17, 18, 19, 20, 23, 24, 25, 26, 27, 28, 29, 30, 31] (by decide +kernel) (by decide +kernel)
set_option maxRecDepth 20000 in
theorem gX5_store_X8_saveTo : GoodIn wsX5_store (wsV RX5 25 RX8 yX8_saveTo wsX8_saveTo) := goodIn_app (goodIn_of _ (by decide +kernel)) ggX5_store_X8_saveTo
theorem dX5_store_0 : decode cX5_store 0 = .ok (.aload_n 2, 1) := by decide +kernel
theorem dX5_store_1 : decode cX5_store 1 = .ok (.aload_n 0, 1) := by decide +kernel
theorem dX5_store_2 : decode cX5_store 2 = .ok (.getfield 11, 3) := by decide +kernel
theorem dX5_store_5 : decode cX5_store 5 = .ok (.iload_n 1, 1) := by decide +kernel
theorem dX5_store_6 : decode cX5_store 6 = .ok (.bipush 16, 2) := by decide +kernel
theorem dX5_store_8 : decode cX5_store 8 = .ok (.imul, 1) := by decide +kernel
theorem dX5_store_9 : decode cX5_store 9 = .ok (.invokevirtual 25, 3) := by decide +kernel
theorem dX5_store_12 : decode cX5_store 12 = .ok (.aload_n 0, 1) := by decide +kernel
theorem dX5_store_13 : decode cX5_store 13 = .ok (.dup, 1) := by decide +kernel
theorem dX5_store_14 : decode cX5_store 14 = .ok (.getfield 17, 3) := by decide +kernel
theorem dX5_store_17 : decode cX5_store 17 = .ok (.iconst 1, 1) := by decide +kernel
theorem dX5_store_18 : decode cX5_store 18 = .ok (.iload_n 1, 1) := by decide +kernel
theorem dX5_store_19 : decode cX5_store 19 = .ok (.ishl, 1) := by decide +kernel
theorem dX5_store_20 : decode cX5_store 20 = .ok (.ior, 1) := by decide +kernel
theorem dX5_store_21 : decode cX5_store 21 = .ok (.putfield 17, 3) := by decide +kernel
theorem dX5_store_24 : decode cX5_store 24 = .ok (.return_, 1) := by decide +kernel
set_option maxRecDepth 20000 in
theorem ggX5_fetch_X8_loadFrom : GoodIn wsX5_fetch wsX8_loadFrom := goodIn_r _ [6, 7, 8, 9, 10, 11, 12, 13, 14, 15, 16, 17, 18, 19, 22, 23, 24, 25, 26, 27, 28, 29, 30] (by decide +kernel) (by decide +kernel)
set_option maxRecDepth 20000 in
theorem gX5_fetch_X8_loadFrom : GoodIn wsX5_fetch (wsV RX5 29 RX8 yX8_loadFrom wsX8_loadFrom) := goodIn_app (goodIn_of _ (by decide +kernel)) ggX5_fetch_X8_loadFrom
theorem dX5_fetch_0 : decode cX5_fetch 0 = .ok (.aload_n 2, 1) := by decide +kernel
theorem dX5_fetch_1 : decode cX5_fetch 1 = .ok (.aload_n 0, 1) := by decide +kernel
theorem dX5_fetch_2 : decode cX5_fetch 2 = .ok (.getfield 11, 3) := by decide +kernel
theorem dX5_fetch_5 : decode cX5_fetch 5 = .ok (.iload_n 1, 1) := by decide +kernel
theorem dX5_fetch_6 : decode cX5_fetch 6 = .ok (.bipush 16, 2) := by decide +kernel
theorem dX5_fetch_8 : decode cX5_fetch 8 = .ok (.imul, 1) := by decide +kernel
theorem dX5_fetch_9 : decode cX5_fetch 9 = .ok (.invokevirtual 29, 3) := by decide +kernel
theorem dX5_fetch_12 : decode cX5_fetch 12 = .ok (.return_, 1) := by decide +kernel
theorem dX5_forget_0 : decode cX5_forget 0 = .ok (.aload_n 0, 1) := by decide +kernel
theorem dX5_forget_1 : decode cX5_forget 1 = .ok (.iconst 0, 1) := by decide +kernel
theorem dX5_forget_2 : decode cX5_forget 2 = .ok (.putfield 17, 3) := by decide +kernel
theorem dX5_forget_5 : decode cX5_forget 5 = .ok (.return_, 1) := by decide +kernel
theorem dX6_init_0 : decode cX6_init 0 = .ok (.aload_n 0, 1) := by decide +kernel
theorem dX6_init_1 : decode cX6_init 1 = .ok (.invokespecial 3, 3) := by decide +kernel
theorem dX6_init_4 : decode cX6_init 4 = .ok (.aload_n 0, 1) := by decide +kernel
theorem dX6_init_5 : decode cX6_init 5 = .ok (.bipush 6, 2) := by decide +kernel
theorem dX6_init_7 : decode cX6_init 7 = .ok (.newarray .int, 2) := by decide +kernel
theorem dX6_init_9 : decode cX6_init 9 = .ok (.putfield 9, 3) := by decide +kernel
theorem dX6_init_12 : decode cX6_init 12 = .ok (.aload_n 0, 1) := by decide +kernel
theorem dX6_init_13 : decode cX6_init 13 = .ok (.bipush 6, 2) := by decide +kernel
theorem dX6_init_15 : decode cX6_init 15 = .ok (.newarray .int, 2) := by decide +kernel
theorem dX6_init_17 : decode cX6_init 17 = .ok (.putfield 15, 3) := by decide +kernel
theorem dX6_init_20 : decode cX6_init 20 = .ok (.aload_n 0, 1) := by decide +kernel
theorem dX6_init_21 : decode cX6_init 21 = .ok (.iconst 0, 1) := by decide +kernel
theorem dX6_init_22 : decode cX6_init 22 = .ok (.putfield 18, 3) := by decide +kernel
theorem dX6_init_25 : decode cX6_init 25 = .ok (.aload_n 0, 1) := by decide +kernel
theorem dX6_init_26 : decode cX6_init 26 = .ok (.iconst 0, 1) := by decide +kernel
theorem dX6_init_27 : decode cX6_init 27 = .ok (.putfield 22, 3) := by decide +kernel
theorem dX6_init_30 : decode cX6_init 30 = .ok (.aload_n 0, 1) := by decide +kernel
theorem dX6_init_31 : decode cX6_init 31 = .ok (.bipush (-9), 2) := by decide +kernel
theorem dX6_init_33 : decode cX6_init 33 = .ok (.putfield 25, 3) := by decide +kernel
theorem dX6_init_36 : decode cX6_init 36 = .ok (.aload_n 0, 1) := by decide +kernel
theorem dX6_init_37 : decode cX6_init 37 = .ok (.bipush (-9), 2) := by decide +kernel
theorem dX6_init_39 : decode cX6_init 39 = .ok (.putfield 28, 3) := by decide +kernel
theorem dX6_init_42 : decode cX6_init 42 = .ok (.return_, 1) := by decide +kernel
theorem dX6_append_0 : decode cX6_append 0 = .ok (.aload_n 0, 1) := by decide +kernel
theorem dX6_append_1 : decode cX6_append 1 = .ok (.getfield 18, 3) := by decide +kernel
theorem dX6_append_4 : decode cX6_append 4 = .ok (.ifCond .lt 12, 3) := by decide +kernel
theorem dX6_append_7 : decode cX6_append 7 = .ok (.aload_n 0, 1) := by decide +kernel
theorem dX6_append_8 : decode cX6_append 8 = .ok (.getfield 18, 3) := by decide +kernel
theorem dX6_append_11 : decode cX6_append 11 = .ok (.bipush 6, 2) := by decide +kernel
theorem dX6_append_13 : decode cX6_append 13 = .ok (.if_icmp .lt 5, 3) := by decide +kernel
theorem dX6_append_16 : decode cX6_append 16 = .ok (.iconst 0, 1) := by decide +kernel
theorem dX6_append_17 : decode cX6_append 17 = .ok (.ireturn, 1) := by decide +kernel
theorem dX6_append_18 : decode cX6_append 18 = .ok (.aload_n 0, 1) := by decide +kernel
theorem dX6_append_19 : decode cX6_append 19 = .ok (.getfield 9, 3) := by decide +kernel
theorem dX6_append_22 : decode cX6_append 22 = .ok (.aload_n 0, 1) := by decide +kernel
theorem dX6_append_23 : decode cX6_append 23 = .ok (.getfield 18, 3) := by decide +kernel
theorem dX6_append_26 : decode cX6_append 26 = .ok (.iload_n 1, 1) := by decide +kernel
theorem dX6_append_27 : decode cX6_append 27 = .ok (.iastore, 1) := by decide +kernel
theorem dX6_append_28 : decode cX6_append 28 = .ok (.aload_n 0, 1) := by decide +kernel
theorem dX6_append_29 : decode cX6_append 29 = .ok (.getfield 15, 3) := by decide +kernel
theorem dX6_append_32 : decode cX6_append 32 = .ok (.aload_n 0, 1) := by decide +kernel
theorem dX6_append_33 : decode cX6_append 33 = .ok (.getfield 18, 3) := by decide +kernel
theorem dX6_append_36 : decode cX6_append 36 = .ok (.iload_n 2, 1) := by decide +kernel
theorem dX6_append_37 : decode cX6_append 37 = .ok (.iastore, 1) := by decide +kernel
theorem dX6_append_38 : decode cX6_append 38 = .ok (.aload_n 0, 1) := by decide +kernel
theorem dX6_append_39 : decode cX6_append 39 = .ok (.dup, 1) := by decide +kernel
theorem dX6_append_40 : decode cX6_append 40 = .ok (.getfield 18, 3) := by decide +kernel
theorem dX6_append_43 : decode cX6_append 43 = .ok (.iconst 1, 1) := by decide +kernel
theorem dX6_append_44 : decode cX6_append 44 = .ok (.iadd, 1) := by decide +kernel
theorem dX6_append_45 : decode cX6_append 45 = .ok (.putfield 18, 3) := by decide +kernel
theorem dX6_append_48 : decode cX6_append 48 = .ok (.iconst 1, 1) := by decide +kernel
theorem dX6_append_49 : decode cX6_append 49 = .ok (.ireturn, 1) := by decide +kernel
set_option maxRecDepth 20000 in
theorem ggX6_seekChanges_X6_allAreSo : GoodIn wsX6_seekChanges wsX6_allAreSo := goodIn_r _ [8, 9, 10, 11, 16, 17, 18, 19, 20, 21] (by decide +kernel) (by decide +kernel)
set_option maxRecDepth 20000 in
theorem gX6_seekChanges_X6_allAreSo : GoodIn wsX6_seekChanges (wsV RX6 31 RX6 yX6_allAreSo wsX6_allAreSo) := goodIn_app (goodIn_of _ (by decide +kernel)) ggX6_seekChanges_X6_allAreSo
set_option maxRecDepth 20000 in
theorem ggX6_seekChanges_X6_countChange : GoodIn wsX6_seekChanges wsX6_countChange := goodIn_r _ [15, 1, 2, 3, 16, 17, 18, 19, 20, 21] (by decide +kernel) (by decide +kernel)
set_option maxRecDepth 20000 in
theorem gX6_seekChanges_X6_countChange : GoodIn wsX6_seekChanges (wsV RX6 35 RX6 yX6_countChange wsX6_countChange) := goodIn_app (goodIn_of _ (by decide +kernel)) ggX6_seekChanges_X6_countChange
theorem dX6_seekChanges_0 : decode cX6_seekChanges 0 = .ok (.aload_n 0, 1) := by decide +kernel
theorem dX6_seekChanges_1 : decode cX6_seekChanges 1 = .ok (.iconst 0, 1) := by decide +kernel
theorem dX6_seekChanges_2 : decode cX6_seekChanges 2 = .ok (.putfield 22, 3) := by decide +kernel
theorem dX6_seekChanges_5 : decode cX6_seekChanges 5 = .ok (.aload_n 0, 1) := by decide +kernel
theorem dX6_seekChanges_6 : decode cX6_seekChanges 6 = .ok (.bipush (-9), 2) := by decide +kernel
theorem dX6_seekChanges_8 : decode cX6_seekChanges 8 = .ok (.putfield 25, 3) := by decide +kernel
theorem dX6_seekChanges_11 : decode cX6_seekChanges 11 = .ok (.aload_n 0, 1) := by decide +kernel
theorem dX6_seekChanges_12 : decode cX6_seekChanges 12 = .ok (.bipush (-9), 2) := by decide +kernel
theorem dX6_seekChanges_14 : decode cX6_seekChanges 14 = .ok (.putfield 28, 3) := by decide +kernel
theorem dX6_seekChanges_17 : decode cX6_seekChanges 17 = .ok (.iconst 0, 1) := by decide +kernel
theorem dX6_seekChanges_18 : decode cX6_seekChanges 18 = .ok (.istore_n 2, 1) := by decide +kernel
theorem dX6_seekChanges_19 : decode cX6_seekChanges 19 = .ok (.iload_n 2, 1) := by decide +kernel
theorem dX6_seekChanges_20 : decode cX6_seekChanges 20 = .ok (.bipush 8, 2) := by decide +kernel
theorem dX6_seekChanges_22 : decode cX6_seekChanges 22 = .ok (.if_icmp .gt 40, 3) := by decide +kernel
theorem dX6_seekChanges_25 : decode cX6_seekChanges 25 = .ok (.bipush (-9), 2) := by decide +kernel
theorem dX6_seekChanges_27 : decode cX6_seekChanges 27 = .ok (.istore_n 3, 1) := by decide +kernel
theorem dX6_seekChanges_28 : decode cX6_seekChanges 28 = .ok (.iload_n 3, 1) := by decide +kernel
theorem dX6_seekChanges_29 : decode cX6_seekChanges 29 = .ok (.bipush 9, 2) := by decide +kernel
theorem dX6_seekChanges_31 : decode cX6_seekChanges 31 = .ok (.if_icmp .gt 25, 3) := by decide +kernel
theorem dX6_seekChanges_34 : decode cX6_seekChanges 34 = .ok (.aload_n 0, 1) := by decide +kernel
theorem dX6_seekChanges_35 : decode cX6_seekChanges 35 = .ok (.iload_n 1, 1) := by decide +kernel
theorem dX6_seekChanges_36 : decode cX6_seekChanges 36 = .ok (.iload_n 2, 1) := by decide +kernel
theorem dX6_seekChanges_37 : decode cX6_seekChanges 37 = .ok (.iload_n 3, 1) := by decide +kernel
theorem dX6_seekChanges_38 : decode cX6_seekChanges 38 = .ok (.invokevirtual 31, 3) := by decide +kernel
theorem dX6_seekChanges_41 : decode cX6_seekChanges 41 = .ok (.ifCond .eq 9, 3) := by decide +kernel
theorem dX6_seekChanges_44 : decode cX6_seekChanges 44 = .ok (.aload_n 0, 1) := by decide +kernel
theorem dX6_seekChanges_45 : decode cX6_seekChanges 45 = .ok (.iload_n 2, 1) := by decide +kernel
theorem dX6_seekChanges_46 : decode cX6_seekChanges 46 = .ok (.iload_n 3, 1) := by decide +kernel
theorem dX6_seekChanges_47 : decode cX6_seekChanges 47 = .ok (.invokevirtual 35, 3) := by decide +kernel
theorem dX6_seekChanges_50 : decode cX6_seekChanges 50 = .ok (.iinc 3 1, 3) := by decide +kernel
theorem dX6_seekChanges_53 : decode cX6_seekChanges 53 = .ok (.goto (-25), 3) := by decide +kernel
theorem dX6_seekChanges_56 : decode cX6_seekChanges 56 = .ok (.iinc 2 1, 3) := by decide +kernel
theorem dX6_seekChanges_59 : decode cX6_seekChanges 59 = .ok (.goto (-40), 3) := by decide +kernel
theorem dX6_seekChanges_62 : decode cX6_seekChanges 62 = .ok (.return_, 1) := by decide +kernel
theorem dX6_countChange_0 : decode cX6_countChange 0 = .ok (.aload_n 0, 1) := by decide +kernel
theorem dX6_countChange_1 : decode cX6_countChange 1 = .ok (.getfield 22, 3) := by decide +kernel
theorem dX6_countChange_4 : decode cX6_countChange 4 = .ok (.ifCond .ne 21, 3) := by decide +kernel
theorem dX6_countChange_7 : decode cX6_countChange 7 = .ok (.aload_n 0, 1) := by decide +kernel
theorem dX6_countChange_8 : decode cX6_countChange 8 = .ok (.bipush 100, 2) := by decide +kernel
theorem dX6_countChange_10 : decode cX6_countChange 10 = .ok (.iload_n 1, 1) := by decide +kernel
theorem dX6_countChange_11 : decode cX6_countChange 11 = .ok (.imul, 1) := by decide +kernel
theorem dX6_countChange_12 : decode cX6_countChange 12 = .ok (.iload_n 2, 1) := by decide +kernel
theorem dX6_countChange_13 : decode cX6_countChange 13 = .ok (.iadd, 1) := by decide +kernel
theorem dX6_countChange_14 : decode cX6_countChange 14 = .ok (.bipush 50, 2) := by decide +kernel
theorem dX6_countChange_16 : decode cX6_countChange 16 = .ok (.iadd, 1) := by decide +kernel
theorem dX6_countChange_17 : decode cX6_countChange 17 = .ok (.putfield 25, 3) := by decide +kernel
theorem dX6_countChange_20 : decode cX6_countChange 20 = .ok (.aload_n 0, 1) := by decide +kernel
theorem dX6_countChange_21 : decode cX6_countChange 21 = .ok (.iconst 0, 1) := by decide +kernel
theorem dX6_countChange_22 : decode cX6_countChange 22 = .ok (.putfield 28, 3) := by decide +kernel
theorem dX6_countChange_25 : decode cX6_countChange 25 = .ok (.aload_n 0, 1) := by decide +kernel
theorem dX6_countChange_26 : decode cX6_countChange 26 = .ok (.dup, 1) := by decide +kernel
theorem dX6_countChange_27 : decode cX6_countChange 27 = .ok (.getfield 22, 3) := by decide +kernel
theorem dX6_countChange_30 : decode cX6_countChange 30 = .ok (.iconst 1, 1) := by decide +kernel
theorem dX6_countChange_31 : decode cX6_countChange 31 = .ok (.iadd, 1) := by decide +kernel
theorem dX6_countChange_32 : decode cX6_countChange 32 = .ok (.putfield 22, 3) := by decide +kernel
theorem dX6_countChange_35 : decode cX6_countChange 35 = .ok (.aload_n 0, 1) := by decide +kernel
theorem dX6_countChange_36 : decode cX6_countChange 36 = .ok (.dup, 1) := by decide +kernel
theorem dX6_countChange_37 : decode cX6_countChange 37 = .ok (.getfield 28, 3) := by decide +kernel
theorem dX6_countChange_40 : decode cX6_countChange 40 = .ok (.iconst 1, 1) := by decide +kernel
theorem dX6_countChange_41 : decode cX6_countChange 41 = .ok (.iload_n 1, 1) := by decide +kernel
theorem dX6_countChange_42 : decode cX6_countChange 42 = .ok (.ishl, 1) := by decide +kernel
theorem dX6_countChange_43 : decode cX6_countChange 43 = .ok (.ior, 1) := by decide +kernel
theorem dX6_countChange_44 : decode cX6_countChange 44 = .ok (.putfield 28, 3) := by decide +kernel
theorem dX6_countChange_47 : decode cX6_countChange 47 = .ok (.return_, 1) := by decide +kernel
theorem dX6_allAreSo_0 : decode cX6_allAreSo 0 = .ok (.iconst 0, 1) := by decide +kernel
theorem dX6_allAreSo_1 : decode cX6_allAreSo 1 = .ok (.istore 4, 2) := by decide +kernel
theorem dX6_allAreSo_3 : decode cX6_allAreSo 3 = .ok (.iload 4, 2) := by decide +kernel
theorem dX6_allAreSo_5 : decode cX6_allAreSo 5 = .ok (.aload_n 0, 1) := by decide +kernel
theorem dX6_allAreSo_6 : decode cX6_allAreSo 6 = .ok (.getfield 18, 3) := by decide +kernel
theorem dX6_allAreSo_9 : decode cX6_allAreSo 9 = .ok (.if_icmp .ge 48, 3) := by decide +kernel
theorem dX6_allAreSo_12 : decode cX6_allAreSo 12 = .ok (.iload 4, 2) := by decide +kernel
theorem dX6_allAreSo_14 : decode cX6_allAreSo 14 = .ok (.bipush 6, 2) := by decide +kernel
theorem dX6_allAreSo_16 : decode cX6_allAreSo 16 = .ok (.if_icmp .ge 41, 3) := by decide +kernel
theorem dX6_allAreSo_19 : decode cX6_allAreSo 19 = .ok (.aload_n 0, 1) := by decide +kernel
theorem dX6_allAreSo_20 : decode cX6_allAreSo 20 = .ok (.getfield 9, 3) := by decide +kernel
theorem dX6_allAreSo_23 : decode cX6_allAreSo 23 = .ok (.iload 4, 2) := by decide +kernel
theorem dX6_allAreSo_25 : decode cX6_allAreSo 25 = .ok (.iaload, 1) := by decide +kernel
theorem dX6_allAreSo_26 : decode cX6_allAreSo 26 = .ok (.iload_n 2, 1) := by decide +kernel
theorem dX6_allAreSo_27 : decode cX6_allAreSo 27 = .ok (.if_icmp .ge 7, 3) := by decide +kernel
theorem dX6_allAreSo_30 : decode cX6_allAreSo 30 = .ok (.iload_n 1, 1) := by decide +kernel
theorem dX6_allAreSo_31 : decode cX6_allAreSo 31 = .ok (.goto 4, 3) := by decide +kernel
theorem dX6_allAreSo_34 : decode cX6_allAreSo 34 = .ok (.iload_n 3, 1) := by decide +kernel
theorem dX6_allAreSo_35 : decode cX6_allAreSo 35 = .ok (.istore 5, 2) := by decide +kernel
theorem dX6_allAreSo_37 : decode cX6_allAreSo 37 = .ok (.aload_n 0, 1) := by decide +kernel
theorem dX6_allAreSo_38 : decode cX6_allAreSo 38 = .ok (.getfield 15, 3) := by decide +kernel
theorem dX6_allAreSo_41 : decode cX6_allAreSo 41 = .ok (.iload 4, 2) := by decide +kernel
theorem dX6_allAreSo_43 : decode cX6_allAreSo 43 = .ok (.iaload, 1) := by decide +kernel
theorem dX6_allAreSo_44 : decode cX6_allAreSo 44 = .ok (.iload 5, 2) := by decide +kernel
theorem dX6_allAreSo_46 : decode cX6_allAreSo 46 = .ok (.if_icmp .eq 5, 3) := by decide +kernel
theorem dX6_allAreSo_49 : decode cX6_allAreSo 49 = .ok (.iconst 0, 1) := by decide +kernel
theorem dX6_allAreSo_50 : decode cX6_allAreSo 50 = .ok (.ireturn, 1) := by decide +kernel
theorem dX6_allAreSo_51 : decode cX6_allAreSo 51 = .ok (.iinc 4 1, 3) := by decide +kernel
theorem dX6_allAreSo_54 : decode cX6_allAreSo 54 = .ok (.goto (-51), 3) := by decide +kernel
theorem dX6_allAreSo_57 : decode cX6_allAreSo 57 = .ok (.iconst 1, 1) := by decide +kernel
theorem dX6_allAreSo_58 : decode cX6_allAreSo 58 = .ok (.ireturn, 1) := by decide +kernel
theorem dX7_init_0 : decode cX7_init 0 = .ok (.aload_n 0, 1) := by decide +kernel
theorem dX7_init_1 : decode cX7_init 1 = .ok (.invokespecial 3, 3) := by decide +kernel
theorem dX7_init_4 : decode cX7_init 4 = .ok (.aload_n 0, 1) := by decide +kernel
theorem dX7_init_5 : decode cX7_init 5 = .ok (.bipush 40, 2) := by decide +kernel
theorem dX7_init_7 : decode cX7_init 7 = .ok (.newarray .int, 2) := by decide +kernel
theorem dX7_init_9 : decode cX7_init 9 = .ok (.putfield 9, 3) := by decide +kernel
theorem dX7_init_12 : decode cX7_init 12 = .ok (.aload_n 0, 1) := by decide +kernel
theorem dX7_init_13 : decode cX7_init 13 = .ok (.iconst 0, 1) := by decide +kernel
theorem dX7_init_14 : decode cX7_init 14 = .ok (.putfield 15, 3) := by decide +kernel
theorem dX7_init_17 : decode cX7_init 17 = .ok (.return_, 1) := by decide +kernel
theorem dX7_append_0 : decode cX7_append 0 = .ok (.aload_n 0, 1) := by decide +kernel
theorem dX7_append_1 : decode cX7_append 1 = .ok (.getfield 15, 3) := by decide +kernel
theorem dX7_append_4 : decode cX7_append 4 = .ok (.ifCond .lt 12, 3) := by decide +kernel
theorem dX7_append_7 : decode cX7_append 7 = .ok (.aload_n 0, 1) := by decide +kernel
theorem dX7_append_8 : decode cX7_append 8 = .ok (.getfield 15, 3) := by decide +kernel
theorem dX7_append_11 : decode cX7_append 11 = .ok (.bipush 40, 2) := by decide +kernel
theorem dX7_append_13 : decode cX7_append 13 = .ok (.if_icmp .lt 5, 3) := by decide +kernel
theorem dX7_append_16 : decode cX7_append 16 = .ok (.iconst 0, 1) := by decide +kernel
theorem dX7_append_17 : decode cX7_append 17 = .ok (.ireturn, 1) := by decide +kernel
theorem dX7_append_18 : decode cX7_append 18 = .ok (.aload_n 0, 1) := by decide +kernel
theorem dX7_append_19 : decode cX7_append 19 = .ok (.getfield 9, 3) := by decide +kernel
theorem dX7_append_22 : decode cX7_append 22 = .ok (.aload_n 0, 1) := by decide +kernel
theorem dX7_append_23 : decode cX7_append 23 = .ok (.getfield 15, 3) := by decide +kernel
theorem dX7_append_26 : decode cX7_append 26 = .ok (.iload_n 1, 1) := by decide +kernel
theorem dX7_append_27 : decode cX7_append 27 = .ok (.iastore, 1) := by decide +kernel
theorem dX7_append_28 : decode cX7_append 28 = .ok (.aload_n 0, 1) := by decide +kernel
theorem dX7_append_29 : decode cX7_append 29 = .ok (.dup, 1) := by decide +kernel
theorem dX7_append_30 : decode cX7_append 30 = .ok (.getfield 15, 3) := by decide +kernel
theorem dX7_append_33 : decode cX7_append 33 = .ok (.iconst 1, 1) := by decide +kernel
theorem dX7_append_34 : decode cX7_append 34 = .ok (.iadd, 1) := by decide +kernel
theorem dX7_append_35 : decode cX7_append 35 = .ok (.putfield 15, 3) := by decide +kernel
theorem dX7_append_38 : decode cX7_append 38 = .ok (.iconst 1, 1) := by decide +kernel
theorem dX7_append_39 : decode cX7_append 39 = .ok (.ireturn, 1) := by decide +kernel
theorem dX7_byteAt_0 : decode cX7_byteAt 0 = .ok (.iload_n 1, 1) := by decide +kernel
theorem dX7_byteAt_1 : decode cX7_byteAt 1 = .ok (.ifCond .lt 26, 3) := by decide +kernel
theorem dX7_byteAt_4 : decode cX7_byteAt 4 = .ok (.iload_n 1, 1) := by decide +kernel
theorem dX7_byteAt_5 : decode cX7_byteAt 5 = .ok (.aload_n 0, 1) := by decide +kernel
theorem dX7_byteAt_6 : decode cX7_byteAt 6 = .ok (.getfield 15, 3) := by decide +kernel
theorem dX7_byteAt_9 : decode cX7_byteAt 9 = .ok (.if_icmp .ge 18, 3) := by decide +kernel
theorem dX7_byteAt_12 : decode cX7_byteAt 12 = .ok (.iload_n 1, 1) := by decide +kernel
theorem dX7_byteAt_13 : decode cX7_byteAt 13 = .ok (.bipush 40, 2) := by decide +kernel
theorem dX7_byteAt_15 : decode cX7_byteAt 15 = .ok (.if_icmp .ge 12, 3) := by decide +kernel
theorem dX7_byteAt_18 : decode cX7_byteAt 18 = .ok (.aload_n 0, 1) := by decide +kernel
theorem dX7_byteAt_19 : decode cX7_byteAt 19 = .ok (.getfield 9, 3) := by decide +kernel
theorem dX7_byteAt_22 : decode cX7_byteAt 22 = .ok (.iload_n 1, 1) := by decide +kernel
theorem dX7_byteAt_23 : decode cX7_byteAt 23 = .ok (.iaload, 1) := by decide +kernel
theorem dX7_byteAt_24 : decode cX7_byteAt 24 = .ok (.goto 4, 3) := by decide +kernel
theorem dX7_byteAt_27 : decode cX7_byteAt 27 = .ok (.iconst 0, 1) := by decide +kernel
theorem dX7_byteAt_28 : decode cX7_byteAt 28 = .ok (.ireturn, 1) := by decide +kernel
set_option maxRecDepth 20000 in
theorem ggX7_digitAt_X7_byteAt : GoodIn wsX7_digitAt wsX7_byteAt := goodIn_r _ [5, 6, 7, 8, 9] (by decide +kernel) (by decide +kernel)
set_option maxRecDepth 20000 in
theorem gX7_digitAt_X7_byteAt : GoodIn wsX7_digitAt (wsV RX7 19 RX7 yX7_byteAt wsX7_byteAt) := goodIn_app (goodIn_of _ (by decide +kernel)) ggX7_digitAt_X7_byteAt
theorem dX7_digitAt_0 : decode cX7_digitAt 0 = .ok (.aload_n 0, 1) := by decide +kernel
theorem dX7_digitAt_1 : decode cX7_digitAt 1 = .ok (.iload_n 1, 1) := by decide +kernel
theorem dX7_digitAt_2 : decode cX7_digitAt 2 = .ok (.invokevirtual 19, 3) := by decide +kernel
theorem dX7_digitAt_5 : decode cX7_digitAt 5 = .ok (.bipush 48, 2) := by decide +kernel
theorem dX7_digitAt_7 : decode cX7_digitAt 7 = .ok (.isub, 1) := by decide +kernel
theorem dX7_digitAt_8 : decode cX7_digitAt 8 = .ok (.ireturn, 1) := by decide +kernel
theorem dX7_stages_0 : decode cX7_stages 0 = .ok (.aload_n 0, 1) := by decide +kernel
theorem dX7_stages_1 : decode cX7_stages 1 = .ok (.getfield 15, 3) := by decide +kernel
theorem dX7_stages_4 : decode cX7_stages 4 = .ok (.bipush 6, 2) := by decide +kernel
theorem dX7_stages_6 : decode cX7_stages 6 = .ok (.isub, 1) := by decide +kernel
theorem dX7_stages_7 : decode cX7_stages 7 = .ok (.iconst 4, 1) := by decide +kernel
theorem dX7_stages_8 : decode cX7_stages 8 = .ok (.idiv, 1) := by decide +kernel
theorem dX7_stages_9 : decode cX7_stages 9 = .ok (.ireturn, 1) := by decide +kernel
set_option maxRecDepth 20000 in
theorem ggX7_firstFault_X7_mayStand : GoodIn wsX7_firstFault wsX7_mayStand := goodIn_r _ [6, 7, 8, 9, 5, 10, 11, 12, 13, 14, 1, 15, 16, 17, 18, 19, 20, 21, 22, 23, 28, 29] (by decide +kernel) (by decide +kernel)
set_option maxRecDepth 20000 in
theorem gX7_firstFault_X7_mayStand : GoodIn wsX7_firstFault (wsV RX7 23 RX7 yX7_mayStand wsX7_mayStand) := goodIn_app (goodIn_of _ (by decide +kernel)) ggX7_firstFault_X7_mayStand
set_option maxRecDepth 20000 in
theorem ggX7_firstFault_X7_isWhole : GoodIn wsX7_firstFault wsX7_isWhole := goodIn_r _ [27, 1, 28, 29] (by decide +kernel) (by decide +kernel)
set_option maxRecDepth 20000 in
theorem gX7_firstFault_X7_isWhole : GoodIn wsX7_firstFault (wsV RX7 27 RX7 yX7_isWhole wsX7_isWhole) := goodIn_app (goodIn_of _ (by decide +kernel)) ggX7_firstFault_X7_isWhole
theorem dX7_firstFault_0 : decode cX7_firstFault 0 = .ok (.iconst 0, 1) := by decide +kernel
theorem dX7_firstFault_1 : decode cX7_firstFault 1 = .ok (.istore_n 1, 1) := by decide +kernel
theorem dX7_firstFault_2 : decode cX7_firstFault 2 = .ok (.iload_n 1, 1) := by decide +kernel
theorem dX7_firstFault_3 : decode cX7_firstFault 3 = .ok (.aload_n 0, 1) := by decide +kernel
theorem dX7_firstFault_4 : decode cX7_firstFault 4 = .ok (.getfield 15, 3) := by decide +kernel
theorem dX7_firstFault_7 : decode cX7_firstFault 7 = .ok (.if_icmp .ge 19, 3) := by decide +kernel
theorem dX7_firstFault_10 : decode cX7_firstFault 10 = .ok (.aload_n 0, 1) := by decide +kernel
theorem dX7_firstFault_11 : decode cX7_firstFault 11 = .ok (.iload_n 1, 1) := by decide +kernel
theorem dX7_firstFault_12 : decode cX7_firstFault 12 = .ok (.invokevirtual 23, 3) := by decide +kernel
theorem dX7_firstFault_15 : decode cX7_firstFault 15 = .ok (.ifCond .ne 5, 3) := by decide +kernel
theorem dX7_firstFault_18 : decode cX7_firstFault 18 = .ok (.iload_n 1, 1) := by decide +kernel
theorem dX7_firstFault_19 : decode cX7_firstFault 19 = .ok (.ireturn, 1) := by decide +kernel
theorem dX7_firstFault_20 : decode cX7_firstFault 20 = .ok (.iinc 1 1, 3) := by decide +kernel
theorem dX7_firstFault_23 : decode cX7_firstFault 23 = .ok (.goto (-21), 3) := by decide +kernel
theorem dX7_firstFault_26 : decode cX7_firstFault 26 = .ok (.aload_n 0, 1) := by decide +kernel
theorem dX7_firstFault_27 : decode cX7_firstFault 27 = .ok (.invokevirtual 27, 3) := by decide +kernel
theorem dX7_firstFault_30 : decode cX7_firstFault 30 = .ok (.ifCond .eq 8, 3) := by decide +kernel
theorem dX7_firstFault_33 : decode cX7_firstFault 33 = .ok (.bipush (-9), 2) := by decide +kernel
theorem dX7_firstFault_35 : decode cX7_firstFault 35 = .ok (.goto 7, 3) := by decide +kernel
theorem dX7_firstFault_38 : decode cX7_firstFault 38 = .ok (.aload_n 0, 1) := by decide +kernel
theorem dX7_firstFault_39 : decode cX7_firstFault 39 = .ok (.getfield 15, 3) := by decide +kernel
theorem dX7_firstFault_42 : decode cX7_firstFault 42 = .ok (.ireturn, 1) := by decide +kernel
theorem dX7_isWhole_0 : decode cX7_isWhole 0 = .ok (.aload_n 0, 1) := by decide +kernel
theorem dX7_isWhole_1 : decode cX7_isWhole 1 = .ok (.getfield 15, 3) := by decide +kernel
theorem dX7_isWhole_4 : decode cX7_isWhole 4 = .ok (.bipush 6, 2) := by decide +kernel
theorem dX7_isWhole_6 : decode cX7_isWhole 6 = .ok (.if_icmp .lt 19, 3) := by decide +kernel
theorem dX7_isWhole_9 : decode cX7_isWhole 9 = .ok (.aload_n 0, 1) := by decide +kernel
theorem dX7_isWhole_10 : decode cX7_isWhole 10 = .ok (.getfield 15, 3) := by decide +kernel
theorem dX7_isWhole_13 : decode cX7_isWhole 13 = .ok (.bipush 6, 2) := by decide +kernel
theorem dX7_isWhole_15 : decode cX7_isWhole 15 = .ok (.isub, 1) := by decide +kernel
theorem dX7_isWhole_16 : decode cX7_isWhole 16 = .ok (.iconst 4, 1) := by decide +kernel
theorem dX7_isWhole_17 : decode cX7_isWhole 17 = .ok (.irem, 1) := by decide +kernel
theorem dX7_isWhole_18 : decode cX7_isWhole 18 = .ok (.ifCond .ne 7, 3) := by decide +kernel
theorem dX7_isWhole_21 : decode cX7_isWhole 21 = .ok (.iconst 1, 1) := by decide +kernel
theorem dX7_isWhole_22 : decode cX7_isWhole 22 = .ok (.goto 4, 3) := by decide +kernel
theorem dX7_isWhole_25 : decode cX7_isWhole 25 = .ok (.iconst 0, 1) := by decide +kernel
theorem dX7_isWhole_26 : decode cX7_isWhole 26 = .ok (.ireturn, 1) := by decide +kernel
set_option maxRecDepth 20000 in
theorem ggX7_mayStand_X7_mayStandInHead : GoodIn wsX7_mayStand wsX7_mayStandInHead := goodIn_r _ [5, 6, 7, 8, 4, 9, 10, 11, 12, 13, 14, 15, 16, 17, 18, 19, 20, 21] (by decide +kernel) (by decide +kernel)
set_option maxRecDepth 20000 in
theorem gX7_mayStand_X7_mayStandInHead : GoodIn wsX7_mayStand (wsV RX7 31 RX7 yX7_mayStandInHead wsX7_mayStandInHead) := goodIn_app (goodIn_of _ (by decide +kernel)) ggX7_mayStand_X7_mayStandInHead
set_option maxRecDepth 20000 in
theorem ggX7_mayStand_X7_byteAt : GoodIn wsX7_mayStand wsX7_byteAt := goodIn_r _ [9, 10, 11, 20, 21] (by decide +kernel) (by decide +kernel)
set_option maxRecDepth 20000 in
theorem gX7_mayStand_X7_byteAt : GoodIn wsX7_mayStand (wsV RX7 19 RX7 yX7_byteAt wsX7_byteAt) := goodIn_app (goodIn_of _ (by decide +kernel)) ggX7_mayStand_X7_byteAt
set_option maxRecDepth 20000 in
theorem ggX7_mayStand_X7_isDigit : GoodIn wsX7_mayStand wsX7_isDigit := goodIn_r _ [15, 16, 17, 18, 4, 19, 6, 7, 8, 9, 10, 11, 20, 21] (by decide +kernel) (by decide +kernel)
set_option maxRecDepth 20000 in
theorem gX7_mayStand_X7_isDigit : GoodIn wsX7_mayStand (wsV RX7 34 RX7 yX7_isDigit wsX7_isDigit) := goodIn_app (goodIn_of _ (by decide +kernel)) ggX7_mayStand_X7_isDigit
theorem dX7_mayStand_0 : decode cX7_mayStand 0 = .ok (.iload_n 1, 1) := by decide +kernel
theorem dX7_mayStand_1 : decode cX7_mayStand 1 = .ok (.bipush 6, 2) := by decide +kernel
theorem dX7_mayStand_3 : decode cX7_mayStand 3 = .ok (.if_icmp .ge 9, 3) := by decide +kernel
theorem dX7_mayStand_6 : decode cX7_mayStand 6 = .ok (.aload_n 0, 1) := by decide +kernel
theorem dX7_mayStand_7 : decode cX7_mayStand 7 = .ok (.iload_n 1, 1) := by decide +kernel
theorem dX7_mayStand_8 : decode cX7_mayStand 8 = .ok (.invokevirtual 31, 3) := by decide +kernel
theorem dX7_mayStand_11 : decode cX7_mayStand 11 = .ok (.ireturn, 1) := by decide +kernel
theorem dX7_mayStand_12 : decode cX7_mayStand 12 = .ok (.iload_n 1, 1) := by decide +kernel
theorem dX7_mayStand_13 : decode cX7_mayStand 13 = .ok (.bipush 38, 2) := by decide +kernel
theorem dX7_mayStand_15 : decode cX7_mayStand 15 = .ok (.if_icmp .lt 5, 3) := by decide +kernel
theorem dX7_mayStand_18 : decode cX7_mayStand 18 = .ok (.iconst 0, 1) := by decide +kernel
theorem dX7_mayStand_19 : decode cX7_mayStand 19 = .ok (.ireturn, 1) := by decide +kernel
theorem dX7_mayStand_20 : decode cX7_mayStand 20 = .ok (.iload_n 1, 1) := by decide +kernel
theorem dX7_mayStand_21 : decode cX7_mayStand 21 = .ok (.bipush 6, 2) := by decide +kernel
theorem dX7_mayStand_23 : decode cX7_mayStand 23 = .ok (.isub, 1) := by decide +kernel
theorem dX7_mayStand_24 : decode cX7_mayStand 24 = .ok (.iconst 4, 1) := by decide +kernel
theorem dX7_mayStand_25 : decode cX7_mayStand 25 = .ok (.irem, 1) := by decide +kernel
theorem dX7_mayStand_26 : decode cX7_mayStand 26 = .ok (.lookupswitch 50 #[(0, 26), (1, 42)], 26) := by decide +kernel
theorem dX7_mayStand_52 : decode cX7_mayStand 52 = .ok (.aload_n 0, 1) := by decide +kernel
theorem dX7_mayStand_53 : decode cX7_mayStand 53 = .ok (.iload_n 1, 1) := by decide +kernel
theorem dX7_mayStand_54 : decode cX7_mayStand 54 = .ok (.invokevirtual 19, 3) := by decide +kernel
theorem dX7_mayStand_57 : decode cX7_mayStand 57 = .ok (.bipush 76, 2) := by decide +kernel
theorem dX7_mayStand_59 : decode cX7_mayStand 59 = .ok (.if_icmp .ne 7, 3) := by decide +kernel
theorem dX7_mayStand_62 : decode cX7_mayStand 62 = .ok (.iconst 1, 1) := by decide +kernel
theorem dX7_mayStand_63 : decode cX7_mayStand 63 = .ok (.goto 4, 3) := by decide +kernel
theorem dX7_mayStand_66 : decode cX7_mayStand 66 = .ok (.iconst 0, 1) := by decide +kernel
theorem dX7_mayStand_67 : decode cX7_mayStand 67 = .ok (.ireturn, 1) := by decide +kernel
theorem dX7_mayStand_68 : decode cX7_mayStand 68 = .ok (.aload_n 0, 1) := by decide +kernel
theorem dX7_mayStand_69 : decode cX7_mayStand 69 = .ok (.iload_n 1, 1) := by decide +kernel
theorem dX7_mayStand_70 : decode cX7_mayStand 70 = .ok (.iconst 0, 1) := by decide +kernel
theorem dX7_mayStand_71 : decode cX7_mayStand 71 = .ok (.iconst 3, 1) := by decide +kernel
theorem dX7_mayStand_72 : decode cX7_mayStand 72 = .ok (.invokevirtual 34, 3) := by decide +kernel
theorem dX7_mayStand_75 : decode cX7_mayStand 75 = .ok (.ireturn, 1) := by decide +kernel
theorem dX7_mayStand_76 : decode cX7_mayStand 76 = .ok (.aload_n 0, 1) := by decide +kernel
theorem dX7_mayStand_77 : decode cX7_mayStand 77 = .ok (.iload_n 1, 1) := by decide +kernel
theorem dX7_mayStand_78 : decode cX7_mayStand 78 = .ok (.iconst 0, 1) := by decide +kernel
theorem dX7_mayStand_79 : decode cX7_mayStand 79 = .ok (.bipush 9, 2) := by decide +kernel
theorem dX7_mayStand_81 : decode cX7_mayStand 81 = .ok (.invokevirtual 34, 3) := by decide +kernel
theorem dX7_mayStand_84 : decode cX7_mayStand 84 = .ok (.ireturn, 1) := by decide +kernel
set_option maxRecDepth 20000 in
theorem ggX7_mayStandInHead_X7_byteAt : GoodIn wsX7_mayStandInHead wsX7_byteAt := goodIn_r _ [5, 6, 7, 16, 17] (by decide +kernel) (by decide +kernel)
set_option maxRecDepth 20000 in
theorem gX7_mayStandInHead_X7_byteAt : GoodIn wsX7_mayStandInHead (wsV RX7 19 RX7 yX7_byteAt wsX7_byteAt) := goodIn_app (goodIn_of _ (by decide +kernel)) ggX7_mayStandInHead_X7_byteAt
set_option maxRecDepth 20000 in
theorem ggX7_mayStandInHead_X7_isDigit : GoodIn wsX7_mayStandInHead wsX7_isDigit := goodIn_r _ [11, 12, 13, 14, 4, 15, 1, 2, 3, 5, 6, 7, 16, 17] (by decide +kernel) (by decide +kernel)
set_option maxRecDepth 20000 in
theorem gX7_mayStandInHead_X7_isDigit : GoodIn wsX7_mayStandInHead (wsV RX7 34 RX7 yX7_isDigit wsX7_isDigit) := goodIn_app (goodIn_of _ (by decide +kernel)) ggX7_mayStandInHead_X7_isDigit
theorem dX7_mayStandInHead_0 : decode cX7_mayStandInHead 0 = .ok (.iload_n 1, 1) := by decide +kernel
theorem dX7_mayStandInHead_1 : decode cX7_mayStandInHead 1 = .ok (.lookupswitch 52 #[(0, 27), (1, 43)], 27) := by decide +kernel
theorem dX7_mayStandInHead_28 : decode cX7_mayStandInHead 28 = .ok (.aload_n 0, 1) := by decide +kernel
theorem dX7_mayStandInHead_29 : decode cX7_mayStandInHead 29 = .ok (.iload_n 1, 1) := by decide +kernel
theorem dX7_mayStandInHead_30 : decode cX7_mayStandInHead 30 = .ok (.invokevirtual 19, 3) := by decide +kernel
theorem dX7_mayStandInHead_33 : decode cX7_mayStandInHead 33 = .ok (.bipush 65, 2) := by decide +kernel
theorem dX7_mayStandInHead_35 : decode cX7_mayStandInHead 35 = .ok (.if_icmp .ne 7, 3) := by decide +kernel
theorem dX7_mayStandInHead_38 : decode cX7_mayStandInHead 38 = .ok (.iconst 1, 1) := by decide +kernel
theorem dX7_mayStandInHead_39 : decode cX7_mayStandInHead 39 = .ok (.goto 4, 3) := by decide +kernel
theorem dX7_mayStandInHead_42 : decode cX7_mayStandInHead 42 = .ok (.iconst 0, 1) := by decide +kernel
theorem dX7_mayStandInHead_43 : decode cX7_mayStandInHead 43 = .ok (.ireturn, 1) := by decide +kernel
theorem dX7_mayStandInHead_44 : decode cX7_mayStandInHead 44 = .ok (.aload_n 0, 1) := by decide +kernel
theorem dX7_mayStandInHead_45 : decode cX7_mayStandInHead 45 = .ok (.iload_n 1, 1) := by decide +kernel
theorem dX7_mayStandInHead_46 : decode cX7_mayStandInHead 46 = .ok (.iconst 2, 1) := by decide +kernel
theorem dX7_mayStandInHead_47 : decode cX7_mayStandInHead 47 = .ok (.bipush 9, 2) := by decide +kernel
theorem dX7_mayStandInHead_49 : decode cX7_mayStandInHead 49 = .ok (.invokevirtual 34, 3) := by decide +kernel
theorem dX7_mayStandInHead_52 : decode cX7_mayStandInHead 52 = .ok (.ireturn, 1) := by decide +kernel
theorem dX7_mayStandInHead_53 : decode cX7_mayStandInHead 53 = .ok (.aload_n 0, 1) := by decide +kernel
theorem dX7_mayStandInHead_54 : decode cX7_mayStandInHead 54 = .ok (.iload_n 1, 1) := by decide +kernel
theorem dX7_mayStandInHead_55 : decode cX7_mayStandInHead 55 = .ok (.iconst 0, 1) := by decide +kernel
theorem dX7_mayStandInHead_56 : decode cX7_mayStandInHead 56 = .ok (.bipush 9, 2) := by decide +kernel
theorem dX7_mayStandInHead_58 : decode cX7_mayStandInHead 58 = .ok (.invokevirtual 34, 3) := by decide +kernel
theorem dX7_mayStandInHead_61 : decode cX7_mayStandInHead 61 = .ok (.ireturn, 1) := by decide +kernel
set_option maxRecDepth 20000 in
theorem ggX7_isDigit_X7_digitAt : GoodIn wsX7_isDigit wsX7_digitAt := goodIn_r _ [5, 6, 7, 8, 4, 9, 10, 11, 12, 13] (by decide +kernel) (by decide +kernel)
set_option maxRecDepth 20000 in
theorem gX7_isDigit_X7_digitAt : GoodIn wsX7_isDigit (wsV RX7 38 RX7 yX7_digitAt wsX7_digitAt) := goodIn_app (goodIn_of _ (by decide +kernel)) ggX7_isDigit_X7_digitAt
theorem dX7_isDigit_0 : decode cX7_isDigit 0 = .ok (.aload_n 0, 1) := by decide +kernel
theorem dX7_isDigit_1 : decode cX7_isDigit 1 = .ok (.iload_n 1, 1) := by decide +kernel
theorem dX7_isDigit_2 : decode cX7_isDigit 2 = .ok (.invokevirtual 38, 3) := by decide +kernel
theorem dX7_isDigit_5 : decode cX7_isDigit 5 = .ok (.istore 4, 2) := by decide +kernel
theorem dX7_isDigit_7 : decode cX7_isDigit 7 = .ok (.iload 4, 2) := by decide +kernel
theorem dX7_isDigit_9 : decode cX7_isDigit 9 = .ok (.iload_n 2, 1) := by decide +kernel
theorem dX7_isDigit_10 : decode cX7_isDigit 10 = .ok (.if_icmp .lt 13, 3) := by decide +kernel
theorem dX7_isDigit_13 : decode cX7_isDigit 13 = .ok (.iload 4, 2) := by decide +kernel
theorem dX7_isDigit_15 : decode cX7_isDigit 15 = .ok (.iload_n 3, 1) := by decide +kernel
theorem dX7_isDigit_16 : decode cX7_isDigit 16 = .ok (.if_icmp .gt 7, 3) := by decide +kernel
theorem dX7_isDigit_19 : decode cX7_isDigit 19 = .ok (.iconst 1, 1) := by decide +kernel
theorem dX7_isDigit_20 : decode cX7_isDigit 20 = .ok (.goto 4, 3) := by decide +kernel
theorem dX7_isDigit_23 : decode cX7_isDigit 23 = .ok (.iconst 0, 1) := by decide +kernel
theorem dX7_isDigit_24 : decode cX7_isDigit 24 = .ok (.ireturn, 1) := by decide +kernel
theorem dX8_init_0 : decode cX8_init 0 = .ok (.aload_n 0, 1) := by decide +kernel
theorem dX8_init_1 : decode cX8_init 1 = .ok (.invokespecial 5, 3) := by decide +kernel
theorem dX8_init_4 : decode cX8_init 4 = .ok (.aload_n 0, 1) := by decide +kernel
theorem dX8_init_5 : decode cX8_init 5 = .ok (.iconst 0, 1) := by decide +kernel
theorem dX8_init_6 : decode cX8_init 6 = .ok (.putfield 11, 3) := by decide +kernel
theorem dX8_init_9 : decode cX8_init 9 = .ok (.aload_n 0, 1) := by decide +kernel
theorem dX8_init_10 : decode cX8_init 10 = .ok (.iconst 0, 1) := by decide +kernel
theorem dX8_init_11 : decode cX8_init 11 = .ok (.putfield 15, 3) := by decide +kernel
theorem dX8_init_14 : decode cX8_init 14 = .ok (.aload_n 0, 1) := by decide +kernel
theorem dX8_init_15 : decode cX8_init 15 = .ok (.iconst 0, 1) := by decide +kernel
theorem dX8_init_16 : decode cX8_init 16 = .ok (.putfield 18, 3) := by decide +kernel
theorem dX8_init_19 : decode cX8_init 19 = .ok (.aload_n 0, 1) := by decide +kernel
theorem dX8_init_20 : decode cX8_init 20 = .ok (.iconst 0, 1) := by decide +kernel
theorem dX8_init_21 : decode cX8_init 21 = .ok (.putfield 21, 3) := by decide +kernel
theorem dX8_init_24 : decode cX8_init 24 = .ok (.aload_n 0, 1) := by decide +kernel
theorem dX8_init_25 : decode cX8_init 25 = .ok (.iconst 0, 1) := by decide +kernel
theorem dX8_init_26 : decode cX8_init 26 = .ok (.putfield 24, 3) := by decide +kernel
theorem dX8_init_29 : decode cX8_init 29 = .ok (.aload_n 0, 1) := by decide +kernel
theorem dX8_init_30 : decode cX8_init 30 = .ok (.iconst 0, 1) := by decide +kernel
theorem dX8_init_31 : decode cX8_init 31 = .ok (.putfield 27, 3) := by decide +kernel
theorem dX8_init_34 : decode cX8_init 34 = .ok (.aload_n 0, 1) := by decide +kernel
theorem dX8_init_35 : decode cX8_init 35 = .ok (.iconst 0, 1) := by decide +kernel
theorem dX8_init_36 : decode cX8_init 36 = .ok (.putfield 30, 3) := by decide +kernel
theorem dX8_init_39 : decode cX8_init 39 = .ok (.aload_n 0, 1) := by decide +kernel
theorem dX8_init_40 : decode cX8_init 40 = .ok (.iconst 0, 1) := by decide +kernel
theorem dX8_init_41 : decode cX8_init 41 = .ok (.putfield 33, 3) := by decide +kernel
theorem dX8_init_44 : decode cX8_init 44 = .ok (.aload_n 0, 1) := by decide +kernel
theorem dX8_init_45 : decode cX8_init 45 = .ok (.bipush 8, 2) := by decide +kernel
theorem dX8_init_47 : decode cX8_init 47 = .ok (.newarray .int, 2) := by decide +kernel
theorem dX8_init_49 : decode cX8_init 49 = .ok (.putfield 36, 3) := by decide +kernel
theorem dX8_init_52 : decode cX8_init 52 = .ok (.return_, 1) := by decide +kernel
theorem dX8_begin_0 : decode cX8_begin 0 = .ok (.aload_n 0, 1) := by decide +kernel
theorem dX8_begin_1 : decode cX8_begin 1 = .ok (.aload_n 1, 1) := by decide +kernel
theorem dX8_begin_2 : decode cX8_begin 2 = .ok (.getfield 40, 3) := by decide +kernel
theorem dX8_begin_5 : decode cX8_begin 5 = .ok (.putfield 11, 3) := by decide +kernel
theorem dX8_begin_8 : decode cX8_begin 8 = .ok (.aload_n 0, 1) := by decide +kernel
theorem dX8_begin_9 : decode cX8_begin 9 = .ok (.iconst 0, 1) := by decide +kernel
theorem dX8_begin_10 : decode cX8_begin 10 = .ok (.putfield 15, 3) := by decide +kernel
theorem dX8_begin_13 : decode cX8_begin 13 = .ok (.aload_n 0, 1) := by decide +kernel
theorem dX8_begin_14 : decode cX8_begin 14 = .ok (.iconst 0, 1) := by decide +kernel
theorem dX8_begin_15 : decode cX8_begin 15 = .ok (.putfield 18, 3) := by decide +kernel
theorem dX8_begin_18 : decode cX8_begin 18 = .ok (.aload_n 0, 1) := by decide +kernel
theorem dX8_begin_19 : decode cX8_begin 19 = .ok (.iconst 0, 1) := by decide +kernel
theorem dX8_begin_20 : decode cX8_begin 20 = .ok (.putfield 21, 3) := by decide +kernel
theorem dX8_begin_23 : decode cX8_begin 23 = .ok (.aload_n 0, 1) := by decide +kernel
theorem dX8_begin_24 : decode cX8_begin 24 = .ok (.iconst 0, 1) := by decide +kernel
theorem dX8_begin_25 : decode cX8_begin 25 = .ok (.putfield 24, 3) := by decide +kernel
theorem dX8_begin_28 : decode cX8_begin 28 = .ok (.aload_n 0, 1) := by decide +kernel
theorem dX8_begin_29 : decode cX8_begin 29 = .ok (.iconst 0, 1) := by decide +kernel
theorem dX8_begin_30 : decode cX8_begin 30 = .ok (.putfield 27, 3) := by decide +kernel
theorem dX8_begin_33 : decode cX8_begin 33 = .ok (.aload_n 0, 1) := by decide +kernel
theorem dX8_begin_34 : decode cX8_begin 34 = .ok (.aload_n 1, 1) := by decide +kernel
theorem dX8_begin_35 : decode cX8_begin 35 = .ok (.getfield 45, 3) := by decide +kernel
theorem dX8_begin_38 : decode cX8_begin 38 = .ok (.putfield 30, 3) := by decide +kernel
theorem dX8_begin_41 : decode cX8_begin 41 = .ok (.aload_n 0, 1) := by decide +kernel
theorem dX8_begin_42 : decode cX8_begin 42 = .ok (.aload_n 1, 1) := by decide +kernel
theorem dX8_begin_43 : decode cX8_begin 43 = .ok (.getfield 46, 3) := by decide +kernel
theorem dX8_begin_46 : decode cX8_begin 46 = .ok (.putfield 33, 3) := by decide +kernel
theorem dX8_begin_49 : decode cX8_begin 49 = .ok (.return_, 1) := by decide +kernel
theorem dX8_isLaid_0 : decode cX8_isLaid 0 = .ok (.iload_n 1, 1) := by decide +kernel
theorem dX8_isLaid_1 : decode cX8_isLaid 1 = .ok (.ifCond .lt 21, 3) := by decide +kernel
theorem dX8_isLaid_4 : decode cX8_isLaid 4 = .ok (.iload_n 1, 1) := by decide +kernel
theorem dX8_isLaid_5 : decode cX8_isLaid 5 = .ok (.aload_n 0, 1) := by decide +kernel
theorem dX8_isLaid_6 : decode cX8_isLaid 6 = .ok (.getfield 21, 3) := by decide +kernel
theorem dX8_isLaid_9 : decode cX8_isLaid 9 = .ok (.if_icmp .ge 13, 3) := by decide +kernel
theorem dX8_isLaid_12 : decode cX8_isLaid 12 = .ok (.iload_n 1, 1) := by decide +kernel
theorem dX8_isLaid_13 : decode cX8_isLaid 13 = .ok (.bipush 8, 2) := by decide +kernel
theorem dX8_isLaid_15 : decode cX8_isLaid 15 = .ok (.if_icmp .ge 7, 3) := by decide +kernel
theorem dX8_isLaid_18 : decode cX8_isLaid 18 = .ok (.iconst 1, 1) := by decide +kernel
theorem dX8_isLaid_19 : decode cX8_isLaid 19 = .ok (.goto 4, 3) := by decide +kernel
theorem dX8_isLaid_22 : decode cX8_isLaid 22 = .ok (.iconst 0, 1) := by decide +kernel
theorem dX8_isLaid_23 : decode cX8_isLaid 23 = .ok (.ireturn, 1) := by decide +kernel
set_option maxRecDepth 20000 in
theorem ggX8_isLost_X8_isLaid : GoodIn wsX8_isLost wsX8_isLaid := goodIn_r _ [6, 7, 8, 9, 10, 11, 12, 13, 14, 15, 16] (by decide +kernel) (by decide +kernel)
set_option maxRecDepth 20000 in
theorem gX8_isLost_X8_isLaid : GoodIn wsX8_isLost (wsV RX8 47 RX8 yX8_isLaid wsX8_isLaid) := goodIn_app (goodIn_of _ (by decide +kernel)) ggX8_isLost_X8_isLaid
theorem dX8_isLost_0 : decode cX8_isLost 0 = .ok (.aload_n 0, 1) := by decide +kernel
theorem dX8_isLost_1 : decode cX8_isLost 1 = .ok (.iload_n 1, 1) := by decide +kernel
theorem dX8_isLost_2 : decode cX8_isLost 2 = .ok (.invokevirtual 47, 3) := by decide +kernel
theorem dX8_isLost_5 : decode cX8_isLost 5 = .ok (.ifCond .eq 19, 3) := by decide +kernel
theorem dX8_isLost_8 : decode cX8_isLost 8 = .ok (.aload_n 0, 1) := by decide +kernel
theorem dX8_isLost_9 : decode cX8_isLost 9 = .ok (.getfield 24, 3) := by decide +kernel
theorem dX8_isLost_12 : decode cX8_isLost 12 = .ok (.iload_n 1, 1) := by decide +kernel
theorem dX8_isLost_13 : decode cX8_isLost 13 = .ok (.ishr, 1) := by decide +kernel
theorem dX8_isLost_14 : decode cX8_isLost 14 = .ok (.iconst 1, 1) := by decide +kernel
theorem dX8_isLost_15 : decode cX8_isLost 15 = .ok (.iand, 1) := by decide +kernel
theorem dX8_isLost_16 : decode cX8_isLost 16 = .ok (.iconst 1, 1) := by decide +kernel
theorem dX8_isLost_17 : decode cX8_isLost 17 = .ok (.if_icmp .ne 7, 3) := by decide +kernel
theorem dX8_isLost_20 : decode cX8_isLost 20 = .ok (.iconst 1, 1) := by decide +kernel
theorem dX8_isLost_21 : decode cX8_isLost 21 = .ok (.goto 4, 3) := by decide +kernel
theorem dX8_isLost_24 : decode cX8_isLost 24 = .ok (.iconst 0, 1) := by decide +kernel
theorem dX8_isLost_25 : decode cX8_isLost 25 = .ok (.ireturn, 1) := by decide +kernel
set_option maxRecDepth 20000 in
theorem ggX8_errorOf_X8_isLaid : GoodIn wsX8_errorOf wsX8_isLaid := goodIn_r _ [6, 7, 8, 9, 10, 11, 12, 13, 14, 15, 16] (by decide +kernel) (by decide +kernel)
set_option maxRecDepth 20000 in
theorem gX8_errorOf_X8_isLaid : GoodIn wsX8_errorOf (wsV RX8 47 RX8 yX8_isLaid wsX8_isLaid) := goodIn_app (goodIn_of _ (by decide +kernel)) ggX8_errorOf_X8_isLaid
theorem dX8_errorOf_0 : decode cX8_errorOf 0 = .ok (.aload_n 0, 1) := by decide +kernel
theorem dX8_errorOf_1 : decode cX8_errorOf 1 = .ok (.iload_n 1, 1) := by decide +kernel
theorem dX8_errorOf_2 : decode cX8_errorOf 2 = .ok (.invokevirtual 47, 3) := by decide +kernel
theorem dX8_errorOf_5 : decode cX8_errorOf 5 = .ok (.ifCond .eq 12, 3) := by decide +kernel
theorem dX8_errorOf_8 : decode cX8_errorOf 8 = .ok (.aload_n 0, 1) := by decide +kernel
theorem dX8_errorOf_9 : decode cX8_errorOf 9 = .ok (.getfield 36, 3) := by decide +kernel
theorem dX8_errorOf_12 : decode cX8_errorOf 12 = .ok (.iload_n 1, 1) := by decide +kernel
theorem dX8_errorOf_13 : decode cX8_errorOf 13 = .ok (.iaload, 1) := by decide +kernel
theorem dX8_errorOf_14 : decode cX8_errorOf 14 = .ok (.goto 4, 3) := by decide +kernel
theorem dX8_errorOf_17 : decode cX8_errorOf 17 = .ok (.iconst 0, 1) := by decide +kernel
theorem dX8_errorOf_18 : decode cX8_errorOf 18 = .ok (.ireturn, 1) := by decide +kernel
set_option maxRecDepth 20000 in
theorem ggX8_errorsTogether_X8_errorOf : GoodIn wsX8_errorsTogether wsX8_errorOf := goodIn_r _ [6, 7, 8, 9, 10, 5, 11, 1, 12, 13, 14, 15, 16, 17, 18, 19, 20] (by decide +kernel) (by decide +kernel)
set_option maxRecDepth 20000 in
theorem gX8_errorsTogether_X8_errorOf : GoodIn wsX8_errorsTogether (wsV RX8 51 RX8 yX8_errorOf wsX8_errorOf) := goodIn_app (goodIn_of _ (by decide +kernel)) ggX8_errorsTogether_X8_errorOf
theorem dX8_errorsTogether_0 : decode cX8_errorsTogether 0 = .ok (.iconst 0, 1) := by decide +kernel
theorem dX8_errorsTogether_1 : decode cX8_errorsTogether 1 = .ok (.istore_n 1, 1) := by decide +kernel
theorem dX8_errorsTogether_2 : decode cX8_errorsTogether 2 = .ok (.iconst 0, 1) := by decide +kernel
theorem dX8_errorsTogether_3 : decode cX8_errorsTogether 3 = .ok (.istore_n 2, 1) := by decide +kernel
theorem dX8_errorsTogether_4 : decode cX8_errorsTogether 4 = .ok (.iload_n 2, 1) := by decide +kernel
theorem dX8_errorsTogether_5 : decode cX8_errorsTogether 5 = .ok (.aload_n 0, 1) := by decide +kernel
theorem dX8_errorsTogether_6 : decode cX8_errorsTogether 6 = .ok (.getfield 21, 3) := by decide +kernel
theorem dX8_errorsTogether_9 : decode cX8_errorsTogether 9 = .ok (.if_icmp .ge 17, 3) := by decide +kernel
theorem dX8_errorsTogether_12 : decode cX8_errorsTogether 12 = .ok (.iload_n 1, 1) := by decide +kernel
theorem dX8_errorsTogether_13 : decode cX8_errorsTogether 13 = .ok (.aload_n 0, 1) := by decide +kernel
theorem dX8_errorsTogether_14 : decode cX8_errorsTogether 14 = .ok (.iload_n 2, 1) := by decide +kernel
theorem dX8_errorsTogether_15 : decode cX8_errorsTogether 15 = .ok (.invokevirtual 51, 3) := by decide +kernel
theorem dX8_errorsTogether_18 : decode cX8_errorsTogether 18 = .ok (.iadd, 1) := by decide +kernel
theorem dX8_errorsTogether_19 : decode cX8_errorsTogether 19 = .ok (.istore_n 1, 1) := by decide +kernel
theorem dX8_errorsTogether_20 : decode cX8_errorsTogether 20 = .ok (.iinc 2 1, 3) := by decide +kernel
theorem dX8_errorsTogether_23 : decode cX8_errorsTogether 23 = .ok (.goto (-19), 3) := by decide +kernel
theorem dX8_errorsTogether_26 : decode cX8_errorsTogether 26 = .ok (.iload_n 1, 1) := by decide +kernel
theorem dX8_errorsTogether_27 : decode cX8_errorsTogether 27 = .ok (.ireturn, 1) := by decide +kernel
theorem dX8_pinAndPick_0 : decode cX8_pinAndPick 0 = .ok (.aload_n 0, 1) := by decide +kernel
theorem dX8_pinAndPick_1 : decode cX8_pinAndPick 1 = .ok (.getfield 21, 3) := by decide +kernel
theorem dX8_pinAndPick_4 : decode cX8_pinAndPick 4 = .ok (.ifCond .lt 12, 3) := by decide +kernel
theorem dX8_pinAndPick_7 : decode cX8_pinAndPick 7 = .ok (.aload_n 0, 1) := by decide +kernel
theorem dX8_pinAndPick_8 : decode cX8_pinAndPick 8 = .ok (.getfield 21, 3) := by decide +kernel
theorem dX8_pinAndPick_11 : decode cX8_pinAndPick 11 = .ok (.bipush 8, 2) := by decide +kernel
theorem dX8_pinAndPick_13 : decode cX8_pinAndPick 13 = .ok (.if_icmp .lt 4, 3) := by decide +kernel
theorem dX8_pinAndPick_16 : decode cX8_pinAndPick 16 = .ok (.return_, 1) := by decide +kernel
theorem dX8_pinAndPick_17 : decode cX8_pinAndPick 17 = .ok (.aload_n 0, 1) := by decide +kernel
theorem dX8_pinAndPick_18 : decode cX8_pinAndPick 18 = .ok (.getfield 11, 3) := by decide +kernel
theorem dX8_pinAndPick_21 : decode cX8_pinAndPick 21 = .ok (.ifCond .ne 26, 3) := by decide +kernel
theorem dX8_pinAndPick_24 : decode cX8_pinAndPick 24 = .ok (.aload_n 0, 1) := by decide +kernel
theorem dX8_pinAndPick_25 : decode cX8_pinAndPick 25 = .ok (.aload_n 0, 1) := by decide +kernel
theorem dX8_pinAndPick_26 : decode cX8_pinAndPick 26 = .ok (.getfield 15, 3) := by decide +kernel
theorem dX8_pinAndPick_29 : decode cX8_pinAndPick 29 = .ok (.putfield 11, 3) := by decide +kernel
theorem dX8_pinAndPick_32 : decode cX8_pinAndPick 32 = .ok (.aload_n 0, 1) := by decide +kernel
theorem dX8_pinAndPick_33 : decode cX8_pinAndPick 33 = .ok (.iconst 0, 1) := by decide +kernel
theorem dX8_pinAndPick_34 : decode cX8_pinAndPick 34 = .ok (.putfield 15, 3) := by decide +kernel
theorem dX8_pinAndPick_37 : decode cX8_pinAndPick 37 = .ok (.aload_n 0, 1) := by decide +kernel
theorem dX8_pinAndPick_38 : decode cX8_pinAndPick 38 = .ok (.dup, 1) := by decide +kernel
theorem dX8_pinAndPick_39 : decode cX8_pinAndPick 39 = .ok (.getfield 18, 3) := by decide +kernel
theorem dX8_pinAndPick_42 : decode cX8_pinAndPick 42 = .ok (.iconst 1, 1) := by decide +kernel
theorem dX8_pinAndPick_43 : decode cX8_pinAndPick 43 = .ok (.iadd, 1) := by decide +kernel
theorem dX8_pinAndPick_44 : decode cX8_pinAndPick 44 = .ok (.putfield 18, 3) := by decide +kernel
theorem dX8_pinAndPick_47 : decode cX8_pinAndPick 47 = .ok (.aload_n 0, 1) := by decide +kernel
theorem dX8_pinAndPick_48 : decode cX8_pinAndPick 48 = .ok (.dup, 1) := by decide +kernel
theorem dX8_pinAndPick_49 : decode cX8_pinAndPick 49 = .ok (.getfield 11, 3) := by decide +kernel
theorem dX8_pinAndPick_52 : decode cX8_pinAndPick 52 = .ok (.iconst 1, 1) := by decide +kernel
theorem dX8_pinAndPick_53 : decode cX8_pinAndPick 53 = .ok (.isub, 1) := by decide +kernel
theorem dX8_pinAndPick_54 : decode cX8_pinAndPick 54 = .ok (.putfield 11, 3) := by decide +kernel
theorem dX8_pinAndPick_57 : decode cX8_pinAndPick 57 = .ok (.aload_n 0, 1) := by decide +kernel
theorem dX8_pinAndPick_58 : decode cX8_pinAndPick 58 = .ok (.dup, 1) := by decide +kernel
theorem dX8_pinAndPick_59 : decode cX8_pinAndPick 59 = .ok (.getfield 15, 3) := by decide +kernel
theorem dX8_pinAndPick_62 : decode cX8_pinAndPick 62 = .ok (.iconst 1, 1) := by decide +kernel
theorem dX8_pinAndPick_63 : decode cX8_pinAndPick 63 = .ok (.iadd, 1) := by decide +kernel
theorem dX8_pinAndPick_64 : decode cX8_pinAndPick 64 = .ok (.putfield 15, 3) := by decide +kernel
theorem dX8_pinAndPick_67 : decode cX8_pinAndPick 67 = .ok (.aload_n 0, 1) := by decide +kernel
theorem dX8_pinAndPick_68 : decode cX8_pinAndPick 68 = .ok (.getfield 36, 3) := by decide +kernel
theorem dX8_pinAndPick_71 : decode cX8_pinAndPick 71 = .ok (.aload_n 0, 1) := by decide +kernel
theorem dX8_pinAndPick_72 : decode cX8_pinAndPick 72 = .ok (.getfield 21, 3) := by decide +kernel
theorem dX8_pinAndPick_75 : decode cX8_pinAndPick 75 = .ok (.iload_n 1, 1) := by decide +kernel
theorem dX8_pinAndPick_76 : decode cX8_pinAndPick 76 = .ok (.iastore, 1) := by decide +kernel
theorem dX8_pinAndPick_77 : decode cX8_pinAndPick 77 = .ok (.aload_n 0, 1) := by decide +kernel
theorem dX8_pinAndPick_78 : decode cX8_pinAndPick 78 = .ok (.dup, 1) := by decide +kernel
theorem dX8_pinAndPick_79 : decode cX8_pinAndPick 79 = .ok (.getfield 21, 3) := by decide +kernel
theorem dX8_pinAndPick_82 : decode cX8_pinAndPick 82 = .ok (.iconst 1, 1) := by decide +kernel
theorem dX8_pinAndPick_83 : decode cX8_pinAndPick 83 = .ok (.iadd, 1) := by decide +kernel
theorem dX8_pinAndPick_84 : decode cX8_pinAndPick 84 = .ok (.putfield 21, 3) := by decide +kernel
theorem dX8_pinAndPick_87 : decode cX8_pinAndPick 87 = .ok (.return_, 1) := by decide +kernel
theorem dX8_leaveBehind_0 : decode cX8_leaveBehind 0 = .ok (.aload_n 0, 1) := by decide +kernel
theorem dX8_leaveBehind_1 : decode cX8_leaveBehind 1 = .ok (.dup, 1) := by decide +kernel
theorem dX8_leaveBehind_2 : decode cX8_leaveBehind 2 = .ok (.getfield 24, 3) := by decide +kernel
theorem dX8_leaveBehind_5 : decode cX8_leaveBehind 5 = .ok (.iconst 1, 1) := by decide +kernel
theorem dX8_leaveBehind_6 : decode cX8_leaveBehind 6 = .ok (.iload_n 1, 1) := by decide +kernel
theorem dX8_leaveBehind_7 : decode cX8_leaveBehind 7 = .ok (.ishl, 1) := by decide +kernel
theorem dX8_leaveBehind_8 : decode cX8_leaveBehind 8 = .ok (.ior, 1) := by decide +kernel
theorem dX8_leaveBehind_9 : decode cX8_leaveBehind 9 = .ok (.putfield 24, 3) := by decide +kernel
theorem dX8_leaveBehind_12 : decode cX8_leaveBehind 12 = .ok (.aload_n 0, 1) := by decide +kernel
theorem dX8_leaveBehind_13 : decode cX8_leaveBehind 13 = .ok (.dup, 1) := by decide +kernel
theorem dX8_leaveBehind_14 : decode cX8_leaveBehind 14 = .ok (.getfield 15, 3) := by decide +kernel
theorem dX8_leaveBehind_17 : decode cX8_leaveBehind 17 = .ok (.iconst 1, 1) := by decide +kernel
theorem dX8_leaveBehind_18 : decode cX8_leaveBehind 18 = .ok (.isub, 1) := by decide +kernel
theorem dX8_leaveBehind_19 : decode cX8_leaveBehind 19 = .ok (.putfield 15, 3) := by decide +kernel
theorem dX8_leaveBehind_22 : decode cX8_leaveBehind 22 = .ok (.return_, 1) := by decide +kernel
theorem dX8_bringBack_0 : decode cX8_bringBack 0 = .ok (.aload_n 0, 1) := by decide +kernel
theorem dX8_bringBack_1 : decode cX8_bringBack 1 = .ok (.dup, 1) := by decide +kernel
theorem dX8_bringBack_2 : decode cX8_bringBack 2 = .ok (.getfield 24, 3) := by decide +kernel
theorem dX8_bringBack_5 : decode cX8_bringBack 5 = .ok (.iconst 1, 1) := by decide +kernel
theorem dX8_bringBack_6 : decode cX8_bringBack 6 = .ok (.iload_n 1, 1) := by decide +kernel
theorem dX8_bringBack_7 : decode cX8_bringBack 7 = .ok (.ishl, 1) := by decide +kernel
theorem dX8_bringBack_8 : decode cX8_bringBack 8 = .ok (.iconst (-1), 1) := by decide +kernel
theorem dX8_bringBack_9 : decode cX8_bringBack 9 = .ok (.ixor, 1) := by decide +kernel
theorem dX8_bringBack_10 : decode cX8_bringBack 10 = .ok (.iand, 1) := by decide +kernel
theorem dX8_bringBack_11 : decode cX8_bringBack 11 = .ok (.putfield 24, 3) := by decide +kernel
theorem dX8_bringBack_14 : decode cX8_bringBack 14 = .ok (.aload_n 0, 1) := by decide +kernel
theorem dX8_bringBack_15 : decode cX8_bringBack 15 = .ok (.dup, 1) := by decide +kernel
theorem dX8_bringBack_16 : decode cX8_bringBack 16 = .ok (.getfield 15, 3) := by decide +kernel
theorem dX8_bringBack_19 : decode cX8_bringBack 19 = .ok (.iconst 1, 1) := by decide +kernel
theorem dX8_bringBack_20 : decode cX8_bringBack 20 = .ok (.iadd, 1) := by decide +kernel
theorem dX8_bringBack_21 : decode cX8_bringBack 21 = .ok (.putfield 15, 3) := by decide +kernel
theorem dX8_bringBack_24 : decode cX8_bringBack 24 = .ok (.return_, 1) := by decide +kernel
theorem dX8_saveTo_0 : decode cX8_saveTo 0 = .ok (.iload_n 2, 1) := by decide +kernel
theorem dX8_saveTo_1 : decode cX8_saveTo 1 = .ok (.ifCond .lt 12, 3) := by decide +kernel
theorem dX8_saveTo_4 : decode cX8_saveTo 4 = .ok (.iload_n 2, 1) := by decide +kernel
theorem dX8_saveTo_5 : decode cX8_saveTo 5 = .ok (.aload_n 1, 1) := by decide +kernel
theorem dX8_saveTo_6 : decode cX8_saveTo 6 = .ok (.arraylength, 1) := by decide +kernel
theorem dX8_saveTo_7 : decode cX8_saveTo 7 = .ok (.bipush 16, 2) := by decide +kernel
theorem dX8_saveTo_9 : decode cX8_saveTo 9 = .ok (.isub, 1) := by decide +kernel
theorem dX8_saveTo_10 : decode cX8_saveTo 10 = .ok (.if_icmp .le 4, 3) := by decide +kernel
theorem dX8_saveTo_13 : decode cX8_saveTo 13 = .ok (.return_, 1) := by decide +kernel
theorem dX8_saveTo_14 : decode cX8_saveTo 14 = .ok (.aload_n 1, 1) := by decide +kernel
theorem dX8_saveTo_15 : decode cX8_saveTo 15 = .ok (.iload_n 2, 1) := by decide +kernel
theorem dX8_saveTo_16 : decode cX8_saveTo 16 = .ok (.aload_n 0, 1) := by decide +kernel
theorem dX8_saveTo_17 : decode cX8_saveTo 17 = .ok (.getfield 11, 3) := by decide +kernel
theorem dX8_saveTo_20 : decode cX8_saveTo 20 = .ok (.iastore, 1) := by decide +kernel
theorem dX8_saveTo_21 : decode cX8_saveTo 21 = .ok (.aload_n 1, 1) := by decide +kernel
theorem dX8_saveTo_22 : decode cX8_saveTo 22 = .ok (.iload_n 2, 1) := by decide +kernel
theorem dX8_saveTo_23 : decode cX8_saveTo 23 = .ok (.iconst 1, 1) := by decide +kernel
theorem dX8_saveTo_24 : decode cX8_saveTo 24 = .ok (.iadd, 1) := by decide +kernel
theorem dX8_saveTo_25 : decode cX8_saveTo 25 = .ok (.aload_n 0, 1) := by decide +kernel
theorem dX8_saveTo_26 : decode cX8_saveTo 26 = .ok (.getfield 15, 3) := by decide +kernel
theorem dX8_saveTo_29 : decode cX8_saveTo 29 = .ok (.iastore, 1) := by decide +kernel
theorem dX8_saveTo_30 : decode cX8_saveTo 30 = .ok (.aload_n 1, 1) := by decide +kernel
theorem dX8_saveTo_31 : decode cX8_saveTo 31 = .ok (.iload_n 2, 1) := by decide +kernel
theorem dX8_saveTo_32 : decode cX8_saveTo 32 = .ok (.iconst 2, 1) := by decide +kernel
theorem dX8_saveTo_33 : decode cX8_saveTo 33 = .ok (.iadd, 1) := by decide +kernel
theorem dX8_saveTo_34 : decode cX8_saveTo 34 = .ok (.aload_n 0, 1) := by decide +kernel
theorem dX8_saveTo_35 : decode cX8_saveTo 35 = .ok (.getfield 18, 3) := by decide +kernel
theorem dX8_saveTo_38 : decode cX8_saveTo 38 = .ok (.iastore, 1) := by decide +kernel
theorem dX8_saveTo_39 : decode cX8_saveTo 39 = .ok (.aload_n 1, 1) := by decide +kernel
theorem dX8_saveTo_40 : decode cX8_saveTo 40 = .ok (.iload_n 2, 1) := by decide +kernel
theorem dX8_saveTo_41 : decode cX8_saveTo 41 = .ok (.iconst 3, 1) := by decide +kernel
theorem dX8_saveTo_42 : decode cX8_saveTo 42 = .ok (.iadd, 1) := by decide +kernel
theorem dX8_saveTo_43 : decode cX8_saveTo 43 = .ok (.aload_n 0, 1) := by decide +kernel
theorem dX8_saveTo_44 : decode cX8_saveTo 44 = .ok (.getfield 21, 3) := by decide +kernel
theorem dX8_saveTo_47 : decode cX8_saveTo 47 = .ok (.iastore, 1) := by decide +kernel
theorem dX8_saveTo_48 : decode cX8_saveTo 48 = .ok (.aload_n 1, 1) := by decide +kernel
theorem dX8_saveTo_49 : decode cX8_saveTo 49 = .ok (.iload_n 2, 1) := by decide +kernel
theorem dX8_saveTo_50 : decode cX8_saveTo 50 = .ok (.iconst 4, 1) := by decide +kernel
theorem dX8_saveTo_51 : decode cX8_saveTo 51 = .ok (.iadd, 1) := by decide +kernel
theorem dX8_saveTo_52 : decode cX8_saveTo 52 = .ok (.aload_n 0, 1) := by decide +kernel
theorem dX8_saveTo_53 : decode cX8_saveTo 53 = .ok (.getfield 24, 3) := by decide +kernel
theorem dX8_saveTo_56 : decode cX8_saveTo 56 = .ok (.iastore, 1) := by decide +kernel
theorem dX8_saveTo_57 : decode cX8_saveTo 57 = .ok (.aload_n 1, 1) := by decide +kernel
theorem dX8_saveTo_58 : decode cX8_saveTo 58 = .ok (.iload_n 2, 1) := by decide +kernel
theorem dX8_saveTo_59 : decode cX8_saveTo 59 = .ok (.iconst 5, 1) := by decide +kernel
theorem dX8_saveTo_60 : decode cX8_saveTo 60 = .ok (.iadd, 1) := by decide +kernel
theorem dX8_saveTo_61 : decode cX8_saveTo 61 = .ok (.aload_n 0, 1) := by decide +kernel
theorem dX8_saveTo_62 : decode cX8_saveTo 62 = .ok (.getfield 27, 3) := by decide +kernel
theorem dX8_saveTo_65 : decode cX8_saveTo 65 = .ok (.iastore, 1) := by decide +kernel
theorem dX8_saveTo_66 : decode cX8_saveTo 66 = .ok (.aload_n 1, 1) := by decide +kernel
theorem dX8_saveTo_67 : decode cX8_saveTo 67 = .ok (.iload_n 2, 1) := by decide +kernel
theorem dX8_saveTo_68 : decode cX8_saveTo 68 = .ok (.bipush 6, 2) := by decide +kernel
theorem dX8_saveTo_70 : decode cX8_saveTo 70 = .ok (.iadd, 1) := by decide +kernel
theorem dX8_saveTo_71 : decode cX8_saveTo 71 = .ok (.aload_n 0, 1) := by decide +kernel
theorem dX8_saveTo_72 : decode cX8_saveTo 72 = .ok (.getfield 30, 3) := by decide +kernel
theorem dX8_saveTo_75 : decode cX8_saveTo 75 = .ok (.iastore, 1) := by decide +kernel
theorem dX8_saveTo_76 : decode cX8_saveTo 76 = .ok (.aload_n 1, 1) := by decide +kernel
theorem dX8_saveTo_77 : decode cX8_saveTo 77 = .ok (.iload_n 2, 1) := by decide +kernel
theorem dX8_saveTo_78 : decode cX8_saveTo 78 = .ok (.bipush 7, 2) := by decide +kernel
theorem dX8_saveTo_80 : decode cX8_saveTo 80 = .ok (.iadd, 1) := by decide +kernel
theorem dX8_saveTo_81 : decode cX8_saveTo 81 = .ok (.aload_n 0, 1) := by decide +kernel
theorem dX8_saveTo_82 : decode cX8_saveTo 82 = .ok (.getfield 33, 3) := by decide +kernel
theorem dX8_saveTo_85 : decode cX8_saveTo 85 = .ok (.iastore, 1) := by decide +kernel
theorem dX8_saveTo_86 : decode cX8_saveTo 86 = .ok (.aload_n 0, 1) := by decide +kernel
theorem dX8_saveTo_87 : decode cX8_saveTo 87 = .ok (.getfield 36, 3) := by decide +kernel
theorem dX8_saveTo_90 : decode cX8_saveTo 90 = .ok (.iconst 0, 1) := by decide +kernel
theorem dX8_saveTo_91 : decode cX8_saveTo 91 = .ok (.aload_n 1, 1) := by decide +kernel
theorem dX8_saveTo_92 : decode cX8_saveTo 92 = .ok (.iload_n 2, 1) := by decide +kernel
theorem dX8_saveTo_93 : decode cX8_saveTo 93 = .ok (.bipush 8, 2) := by decide +kernel
theorem dX8_saveTo_95 : decode cX8_saveTo 95 = .ok (.iadd, 1) := by decide +kernel
theorem dX8_saveTo_96 : decode cX8_saveTo 96 = .ok (.bipush 8, 2) := by decide +kernel
theorem dX8_saveTo_98 : decode cX8_saveTo 98 = .ok (.invokestatic 55, 3) := by decide +kernel
theorem dX8_saveTo_101 : decode cX8_saveTo 101 = .ok (.return_, 1) := by decide +kernel
theorem dX8_loadFrom_0 : decode cX8_loadFrom 0 = .ok (.iload_n 2, 1) := by decide +kernel
theorem dX8_loadFrom_1 : decode cX8_loadFrom 1 = .ok (.ifCond .lt 12, 3) := by decide +kernel
theorem dX8_loadFrom_4 : decode cX8_loadFrom 4 = .ok (.iload_n 2, 1) := by decide +kernel
theorem dX8_loadFrom_5 : decode cX8_loadFrom 5 = .ok (.aload_n 1, 1) := by decide +kernel
theorem dX8_loadFrom_6 : decode cX8_loadFrom 6 = .ok (.arraylength, 1) := by decide +kernel
theorem dX8_loadFrom_7 : decode cX8_loadFrom 7 = .ok (.bipush 16, 2) := by decide +kernel
theorem dX8_loadFrom_9 : decode cX8_loadFrom 9 = .ok (.isub, 1) := by decide +kernel
theorem dX8_loadFrom_10 : decode cX8_loadFrom 10 = .ok (.if_icmp .le 4, 3) := by decide +kernel
theorem dX8_loadFrom_13 : decode cX8_loadFrom 13 = .ok (.return_, 1) := by decide +kernel
theorem dX8_loadFrom_14 : decode cX8_loadFrom 14 = .ok (.aload_n 0, 1) := by decide +kernel
theorem dX8_loadFrom_15 : decode cX8_loadFrom 15 = .ok (.aload_n 1, 1) := by decide +kernel
theorem dX8_loadFrom_16 : decode cX8_loadFrom 16 = .ok (.iload_n 2, 1) := by decide +kernel
theorem dX8_loadFrom_17 : decode cX8_loadFrom 17 = .ok (.iaload, 1) := by decide +kernel
theorem dX8_loadFrom_18 : decode cX8_loadFrom 18 = .ok (.putfield 11, 3) := by decide +kernel
theorem dX8_loadFrom_21 : decode cX8_loadFrom 21 = .ok (.aload_n 0, 1) := by decide +kernel
theorem dX8_loadFrom_22 : decode cX8_loadFrom 22 = .ok (.aload_n 1, 1) := by decide +kernel
theorem dX8_loadFrom_23 : decode cX8_loadFrom 23 = .ok (.iload_n 2, 1) := by decide +kernel
theorem dX8_loadFrom_24 : decode cX8_loadFrom 24 = .ok (.iconst 1, 1) := by decide +kernel
theorem dX8_loadFrom_25 : decode cX8_loadFrom 25 = .ok (.iadd, 1) := by decide +kernel
theorem dX8_loadFrom_26 : decode cX8_loadFrom 26 = .ok (.iaload, 1) := by decide +kernel
theorem dX8_loadFrom_27 : decode cX8_loadFrom 27 = .ok (.putfield 15, 3) := by decide +kernel
theorem dX8_loadFrom_30 : decode cX8_loadFrom 30 = .ok (.aload_n 0, 1) := by decide +kernel
theorem dX8_loadFrom_31 : decode cX8_loadFrom 31 = .ok (.aload_n 1, 1) := by decide +kernel
theorem dX8_loadFrom_32 : decode cX8_loadFrom 32 = .ok (.iload_n 2, 1) := by decide +kernel
theorem dX8_loadFrom_33 : decode cX8_loadFrom 33 = .ok (.iconst 2, 1) := by decide +kernel
theorem dX8_loadFrom_34 : decode cX8_loadFrom 34 = .ok (.iadd, 1) := by decide +kernel
theorem dX8_loadFrom_35 : decode cX8_loadFrom 35 = .ok (.iaload, 1) := by decide +kernel
theorem dX8_loadFrom_36 : decode cX8_loadFrom 36 = .ok (.putfield 18, 3) := by decide +kernel
theorem dX8_loadFrom_39 : decode cX8_loadFrom 39 = .ok (.aload_n 0, 1) := by decide +kernel
theorem dX8_loadFrom_40 : decode cX8_loadFrom 40 = .ok (.aload_n 1, 1) := by decide +kernel
theorem dX8_loadFrom_41 : decode cX8_loadFrom 41 = .ok (.iload_n 2, 1) := by decide +kernel
theorem dX8_loadFrom_42 : decode cX8_loadFrom 42 = .ok (.iconst 3, 1) := by decide +kernel
theorem dX8_loadFrom_43 : decode cX8_loadFrom 43 = .ok (.iadd, 1) := by decide +kernel
theorem dX8_loadFrom_44 : decode cX8_loadFrom 44 = .ok (.iaload, 1) := by decide +kernel
theorem dX8_loadFrom_45 : decode cX8_loadFrom 45 = .ok (.putfield 21, 3) := by decide +kernel
theorem dX8_loadFrom_48 : decode cX8_loadFrom 48 = .ok (.aload_n 0, 1) := by decide +kernel
theorem dX8_loadFrom_49 : decode cX8_loadFrom 49 = .ok (.aload_n 1, 1) := by decide +kernel
theorem dX8_loadFrom_50 : decode cX8_loadFrom 50 = .ok (.iload_n 2, 1) := by decide +kernel
theorem dX8_loadFrom_51 : decode cX8_loadFrom 51 = .ok (.iconst 4, 1) := by decide +kernel
theorem dX8_loadFrom_52 : decode cX8_loadFrom 52 = .ok (.iadd, 1) := by decide +kernel
theorem dX8_loadFrom_53 : decode cX8_loadFrom 53 = .ok (.iaload, 1) := by decide +kernel
theorem dX8_loadFrom_54 : decode cX8_loadFrom 54 = .ok (.putfield 24, 3) := by decide +kernel
theorem dX8_loadFrom_57 : decode cX8_loadFrom 57 = .ok (.aload_n 0, 1) := by decide +kernel
theorem dX8_loadFrom_58 : decode cX8_loadFrom 58 = .ok (.aload_n 1, 1) := by decide +kernel
theorem dX8_loadFrom_59 : decode cX8_loadFrom 59 = .ok (.iload_n 2, 1) := by decide +kernel
theorem dX8_loadFrom_60 : decode cX8_loadFrom 60 = .ok (.iconst 5, 1) := by decide +kernel
theorem dX8_loadFrom_61 : decode cX8_loadFrom 61 = .ok (.iadd, 1) := by decide +kernel
theorem dX8_loadFrom_62 : decode cX8_loadFrom 62 = .ok (.iaload, 1) := by decide +kernel
theorem dX8_loadFrom_63 : decode cX8_loadFrom 63 = .ok (.putfield 27, 3) := by decide +kernel
theorem dX8_loadFrom_66 : decode cX8_loadFrom 66 = .ok (.aload_n 0, 1) := by decide +kernel
theorem dX8_loadFrom_67 : decode cX8_loadFrom 67 = .ok (.aload_n 1, 1) := by decide +kernel
theorem dX8_loadFrom_68 : decode cX8_loadFrom 68 = .ok (.iload_n 2, 1) := by decide +kernel
theorem dX8_loadFrom_69 : decode cX8_loadFrom 69 = .ok (.bipush 6, 2) := by decide +kernel
theorem dX8_loadFrom_71 : decode cX8_loadFrom 71 = .ok (.iadd, 1) := by decide +kernel
theorem dX8_loadFrom_72 : decode cX8_loadFrom 72 = .ok (.iaload, 1) := by decide +kernel
theorem dX8_loadFrom_73 : decode cX8_loadFrom 73 = .ok (.putfield 30, 3) := by decide +kernel
theorem dX8_loadFrom_76 : decode cX8_loadFrom 76 = .ok (.aload_n 0, 1) := by decide +kernel
theorem dX8_loadFrom_77 : decode cX8_loadFrom 77 = .ok (.aload_n 1, 1) := by decide +kernel
theorem dX8_loadFrom_78 : decode cX8_loadFrom 78 = .ok (.iload_n 2, 1) := by decide +kernel
theorem dX8_loadFrom_79 : decode cX8_loadFrom 79 = .ok (.bipush 7, 2) := by decide +kernel
theorem dX8_loadFrom_81 : decode cX8_loadFrom 81 = .ok (.iadd, 1) := by decide +kernel
theorem dX8_loadFrom_82 : decode cX8_loadFrom 82 = .ok (.iaload, 1) := by decide +kernel
theorem dX8_loadFrom_83 : decode cX8_loadFrom 83 = .ok (.putfield 33, 3) := by decide +kernel
theorem dX8_loadFrom_86 : decode cX8_loadFrom 86 = .ok (.aload_n 1, 1) := by decide +kernel
theorem dX8_loadFrom_87 : decode cX8_loadFrom 87 = .ok (.iload_n 2, 1) := by decide +kernel
theorem dX8_loadFrom_88 : decode cX8_loadFrom 88 = .ok (.bipush 8, 2) := by decide +kernel
theorem dX8_loadFrom_90 : decode cX8_loadFrom 90 = .ok (.iadd, 1) := by decide +kernel
theorem dX8_loadFrom_91 : decode cX8_loadFrom 91 = .ok (.aload_n 0, 1) := by decide +kernel
theorem dX8_loadFrom_92 : decode cX8_loadFrom 92 = .ok (.getfield 36, 3) := by decide +kernel
theorem dX8_loadFrom_95 : decode cX8_loadFrom 95 = .ok (.iconst 0, 1) := by decide +kernel
theorem dX8_loadFrom_96 : decode cX8_loadFrom 96 = .ok (.bipush 8, 2) := by decide +kernel
theorem dX8_loadFrom_98 : decode cX8_loadFrom 98 = .ok (.invokestatic 55, 3) := by decide +kernel
theorem dX8_loadFrom_101 : decode cX8_loadFrom 101 = .ok (.return_, 1) := by decide +kernel
