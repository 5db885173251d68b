set_option maxRecDepth 20000 in
theorem ggX0_init_X3_init : GoodIn wsX0_init wsX3_init := goodIn_r _ [13, 14, 2, 3, 5, 15, 16, 17, 18, 19, 29, 30, 31, 32, 33] (by decide +kernel) (by decide +kernel)
set_option maxRecDepth 20000 in
theorem gX0_init_X3_init_n21 : GoodIn wsX0_init (wsX3_init) := ggX0_init_X3_init
theorem dX0_init_0 : decode cX0_init 0 = .ok (.aload_n 0, 1) := by decide +kernel
theorem dX0_init_1 : decode cX0_init 1 = .ok (.invokespecial 3, 3) := by decide +kernel
theorem dX0_init_4 : decode cX0_init 4 = .ok (.aload_n 0, 1) := by decide +kernel
theorem dX0_init_5 : decode cX0_init 5 = .ok (.bipush 16, 2) := by decide +kernel
theorem dX0_init_7 : decode cX0_init 7 = .ok (.putfield 9, 3) := by decide +kernel
theorem dX0_init_10 : decode cX0_init 10 = .ok (.aload_n 0, 1) := by decide +kernel
theorem dX0_init_11 : decode cX0_init 11 = .ok (.bipush 32, 2) := by decide +kernel
theorem dX0_init_13 : decode cX0_init 13 = .ok (.newarray .int, 2) := by decide +kernel
theorem dX0_init_15 : decode cX0_init 15 = .ok (.putfield 15, 3) := by decide +kernel
theorem dX0_init_18 : decode cX0_init 18 = .ok (.aload_n 0, 1) := by decide +kernel
theorem dX0_init_19 : decode cX0_init 19 = .ok (.new 19, 3) := by decide +kernel
theorem dX0_init_22 : decode cX0_init 22 = .ok (.dup, 1) := by decide +kernel
theorem dX0_init_23 : decode cX0_init 23 = .ok (.invokespecial 21, 3) := by decide +kernel
theorem dX0_init_26 : decode cX0_init 26 = .ok (.putfield 22, 3) := by decide +kernel
theorem dX0_init_29 : decode cX0_init 29 = .ok (.aload_n 0, 1) := by decide +kernel
theorem dX0_init_30 : decode cX0_init 30 = .ok (.new 19, 3) := by decide +kernel
theorem dX0_init_33 : decode cX0_init 33 = .ok (.dup, 1) := by decide +kernel
theorem dX0_init_34 : decode cX0_init 34 = .ok (.invokespecial 21, 3) := by decide +kernel
theorem dX0_init_37 : decode cX0_init 37 = .ok (.putfield 26, 3) := by decide +kernel
theorem dX0_init_40 : decode cX0_init 40 = .ok (.return_, 1) := by decide +kernel
set_option maxRecDepth 20000 in
theorem ggX0_copyFrom_X3_copyFrom : GoodIn wsX0_copyFrom wsX3_copyFrom := goodIn_r _ [17, 18, 19, 4, 5, 6, 20, 21, 22, 23, 33, 34, 35, 36, 37] (by decide +kernel) (by decide +kernel)
set_option maxRecDepth 20000 in
theorem gX0_copyFrom_X3_copyFrom_n35 : GoodIn wsX0_copyFrom (wsX3_copyFrom) := ggX0_copyFrom_X3_copyFrom
theorem dX0_copyFrom_0 : decode cX0_copyFrom 0 = .ok (.aload_n 0, 1) := by decide +kernel
theorem dX0_copyFrom_1 : decode cX0_copyFrom 1 = .ok (.aload_n 1, 1) := by decide +kernel
theorem dX0_copyFrom_2 : decode cX0_copyFrom 2 = .ok (.getfield 9, 3) := by decide +kernel
theorem dX0_copyFrom_5 : decode cX0_copyFrom 5 = .ok (.putfield 9, 3) := by decide +kernel
theorem dX0_copyFrom_8 : decode cX0_copyFrom 8 = .ok (.aload_n 1, 1) := by decide +kernel
theorem dX0_copyFrom_9 : decode cX0_copyFrom 9 = .ok (.getfield 15, 3) := by decide +kernel
theorem dX0_copyFrom_12 : decode cX0_copyFrom 12 = .ok (.iconst 0, 1) := by decide +kernel
theorem dX0_copyFrom_13 : decode cX0_copyFrom 13 = .ok (.aload_n 0, 1) := by decide +kernel
theorem dX0_copyFrom_14 : decode cX0_copyFrom 14 = .ok (.getfield 15, 3) := by decide +kernel
theorem dX0_copyFrom_17 : decode cX0_copyFrom 17 = .ok (.iconst 0, 1) := by decide +kernel
theorem dX0_copyFrom_18 : decode cX0_copyFrom 18 = .ok (.bipush 32, 2) := by decide +kernel
theorem dX0_copyFrom_20 : decode cX0_copyFrom 20 = .ok (.invokestatic 29, 3) := by decide +kernel
theorem dX0_copyFrom_23 : decode cX0_copyFrom 23 = .ok (.aload_n 0, 1) := by decide +kernel
theorem dX0_copyFrom_24 : decode cX0_copyFrom 24 = .ok (.getfield 22, 3) := by decide +kernel
theorem dX0_copyFrom_27 : decode cX0_copyFrom 27 = .ok (.aload_n 1, 1) := by decide +kernel
theorem dX0_copyFrom_28 : decode cX0_copyFrom 28 = .ok (.getfield 22, 3) := by decide +kernel
theorem dX0_copyFrom_31 : decode cX0_copyFrom 31 = .ok (.invokevirtual 35, 3) := by decide +kernel
theorem dX0_copyFrom_34 : decode cX0_copyFrom 34 = .ok (.aload_n 0, 1) := by decide +kernel
theorem dX0_copyFrom_35 : decode cX0_copyFrom 35 = .ok (.getfield 26, 3) := by decide +kernel
theorem dX0_copyFrom_38 : decode cX0_copyFrom 38 = .ok (.aload_n 1, 1) := by decide +kernel
theorem dX0_copyFrom_39 : decode cX0_copyFrom 39 = .ok (.getfield 26, 3) := by decide +kernel
theorem dX0_copyFrom_42 : decode cX0_copyFrom 42 = .ok (.invokevirtual 35, 3) := by decide +kernel
theorem dX0_copyFrom_45 : decode cX0_copyFrom 45 = .ok (.aload_n 0, 1) := by decide +kernel
theorem dX0_copyFrom_46 : decode cX0_copyFrom 46 = .ok (.aload_n 1, 1) := by decide +kernel
theorem dX0_copyFrom_47 : decode cX0_copyFrom 47 = .ok (.getfield 39, 3) := by decide +kernel
theorem dX0_copyFrom_50 : decode cX0_copyFrom 50 = .ok (.putfield 39, 3) := by decide +kernel
theorem dX0_copyFrom_53 : decode cX0_copyFrom 53 = .ok (.aload_n 0, 1) := by decide +kernel
theorem dX0_copyFrom_54 : decode cX0_copyFrom 54 = .ok (.aload_n 1, 1) := by decide +kernel
theorem dX0_copyFrom_55 : decode cX0_copyFrom 55 = .ok (.getfield 42, 3) := by decide +kernel
theorem dX0_copyFrom_58 : decode cX0_copyFrom 58 = .ok (.putfield 42, 3) := by decide +kernel
theorem dX0_copyFrom_61 : decode cX0_copyFrom 61 = .ok (.aload_n 0, 1) := by decide +kernel
theorem dX0_copyFrom_62 : decode cX0_copyFrom 62 = .ok (.aload_n 1, 1) := by decide +kernel
theorem dX0_copyFrom_63 : decode cX0_copyFrom 63 = .ok (.getfield 45, 3) := by decide +kernel
theorem dX0_copyFrom_66 : decode cX0_copyFrom 66 = .ok (.putfield 45, 3) := by decide +kernel
theorem dX0_copyFrom_69 : decode cX0_copyFrom 69 = .ok (.aload_n 0, 1) := by decide +kernel
theorem dX0_copyFrom_70 : decode cX0_copyFrom 70 = .ok (.aload_n 1, 1) := by decide +kernel
theorem dX0_copyFrom_71 : decode cX0_copyFrom 71 = .ok (.getfield 48, 3) := by decide +kernel
theorem dX0_copyFrom_74 : decode cX0_copyFrom 74 = .ok (.putfield 48, 3) := by decide +kernel
theorem dX0_copyFrom_77 : decode cX0_copyFrom 77 = .ok (.aload_n 0, 1) := by decide +kernel
theorem dX0_copyFrom_78 : decode cX0_copyFrom 78 = .ok (.aload_n 1, 1) := by decide +kernel
theorem dX0_copyFrom_79 : decode cX0_copyFrom 79 = .ok (.getfield 51, 3) := by decide +kernel
theorem dX0_copyFrom_82 : decode cX0_copyFrom 82 = .ok (.putfield 51, 3) := by decide +kernel
theorem dX0_copyFrom_85 : decode cX0_copyFrom 85 = .ok (.return_, 1) := by decide +kernel
set_option maxRecDepth 20000 in
theorem ggX0_startAnew_J7_fill_53178 : GoodIn wsX0_startAnew wsJ7_fill_53178 := goodIn_r _ [13] (by decide +kernel) (by decide +kernel)
set_option maxRecDepth 20000 in
theorem gX0_startAnew_J7_fill_53178 : GoodIn wsX0_startAnew (va_wsS RX0 54 yJ7_fill_53178 wsJ7_fill_53178) := goodIn_app (goodIn_of _ (by decide +kernel)) ggX0_startAnew_J7_fill_53178
set_option maxRecDepth 20000 in
theorem ggX0_startAnew_X3_clear : GoodIn wsX0_startAnew wsX3_clear := goodIn_r _ [17, 18, 19, 20, 11, 12, 13, 30, 31, 32, 33, 34] (by decide +kernel) (by decide +kernel)
set_option maxRecDepth 20000 in
theorem gX0_startAnew_X3_clear_n60 : GoodIn wsX0_startAnew (wsX3_clear) := ggX0_startAnew_X3_clear
theorem dX0_startAnew_0 : decode cX0_startAnew 0 = .ok (.iload_n 1, 1) := by decide +kernel
theorem dX0_startAnew_1 : decode cX0_startAnew 1 = .ok (.iconst 1, 1) := by decide +kernel
theorem dX0_startAnew_2 : decode cX0_startAnew 2 = .ok (.if_icmp .lt 9, 3) := by decide +kernel
theorem dX0_startAnew_5 : decode cX0_startAnew 5 = .ok (.iload_n 1, 1) := by decide +kernel
theorem dX0_startAnew_6 : decode cX0_startAnew 6 = .ok (.bipush 32, 2) := by decide +kernel
theorem dX0_startAnew_8 : decode cX0_startAnew 8 = .ok (.if_icmp .le 6, 3) := by decide +kernel
theorem dX0_startAnew_11 : decode cX0_startAnew 11 = .ok (.bipush (-2), 2) := by decide +kernel
theorem dX0_startAnew_13 : decode cX0_startAnew 13 = .ok (.ireturn, 1) := by decide +kernel
theorem dX0_startAnew_14 : decode cX0_startAnew 14 = .ok (.aload_n 0, 1) := by decide +kernel
theorem dX0_startAnew_15 : decode cX0_startAnew 15 = .ok (.getfield 9, 3) := by decide +kernel
theorem dX0_startAnew_18 : decode cX0_startAnew 18 = .ok (.istore_n 2, 1) := by decide +kernel
theorem dX0_startAnew_19 : decode cX0_startAnew 19 = .ok (.aload_n 0, 1) := by decide +kernel
theorem dX0_startAnew_20 : decode cX0_startAnew 20 = .ok (.iload_n 1, 1) := by decide +kernel
theorem dX0_startAnew_21 : decode cX0_startAnew 21 = .ok (.putfield 9, 3) := by decide +kernel
theorem dX0_startAnew_24 : decode cX0_startAnew 24 = .ok (.aload_n 0, 1) := by decide +kernel
theorem dX0_startAnew_25 : decode cX0_startAnew 25 = .ok (.getfield 15, 3) := by decide +kernel
theorem dX0_startAnew_28 : decode cX0_startAnew 28 = .ok (.iconst 0, 1) := by decide +kernel
theorem dX0_startAnew_29 : decode cX0_startAnew 29 = .ok (.invokestatic 54, 3) := by decide +kernel
theorem dX0_startAnew_32 : decode cX0_startAnew 32 = .ok (.aload_n 0, 1) := by decide +kernel
theorem dX0_startAnew_33 : decode cX0_startAnew 33 = .ok (.getfield 22, 3) := by decide +kernel
theorem dX0_startAnew_36 : decode cX0_startAnew 36 = .ok (.invokevirtual 60, 3) := by decide +kernel
theorem dX0_startAnew_39 : decode cX0_startAnew 39 = .ok (.aload_n 0, 1) := by decide +kernel
theorem dX0_startAnew_40 : decode cX0_startAnew 40 = .ok (.getfield 26, 3) := by decide +kernel
theorem dX0_startAnew_43 : decode cX0_startAnew 43 = .ok (.invokevirtual 60, 3) := by decide +kernel
theorem dX0_startAnew_46 : decode cX0_startAnew 46 = .ok (.aload_n 0, 1) := by decide +kernel
theorem dX0_startAnew_47 : decode cX0_startAnew 47 = .ok (.iconst 0, 1) := by decide +kernel
theorem dX0_startAnew_48 : decode cX0_startAnew 48 = .ok (.putfield 39, 3) := by decide +kernel
theorem dX0_startAnew_51 : decode cX0_startAnew 51 = .ok (.aload_n 0, 1) := by decide +kernel
theorem dX0_startAnew_52 : decode cX0_startAnew 52 = .ok (.iconst 0, 1) := by decide +kernel
theorem dX0_startAnew_53 : decode cX0_startAnew 53 = .ok (.putfield 42, 3) := by decide +kernel
theorem dX0_startAnew_56 : decode cX0_startAnew 56 = .ok (.aload_n 0, 1) := by decide +kernel
theorem dX0_startAnew_57 : decode cX0_startAnew 57 = .ok (.iconst 0, 1) := by decide +kernel
theorem dX0_startAnew_58 : decode cX0_startAnew 58 = .ok (.putfield 45, 3) := by decide +kernel
theorem dX0_startAnew_61 : decode cX0_startAnew 61 = .ok (.aload_n 0, 1) := by decide +kernel
theorem dX0_startAnew_62 : decode cX0_startAnew 62 = .ok (.iconst 0, 1) := by decide +kernel
theorem dX0_startAnew_63 : decode cX0_startAnew 63 = .ok (.putfield 48, 3) := by decide +kernel
theorem dX0_startAnew_66 : decode cX0_startAnew 66 = .ok (.aload_n 0, 1) := by decide +kernel
theorem dX0_startAnew_67 : decode cX0_startAnew 67 = .ok (.iconst 0, 1) := by decide +kernel
theorem dX0_startAnew_68 : decode cX0_startAnew 68 = .ok (.putfield 51, 3) := by decide +kernel
theorem dX0_startAnew_71 : decode cX0_startAnew 71 = .ok (.iload_n 2, 1) := by decide +kernel
theorem dX0_startAnew_72 : decode cX0_startAnew 72 = .ok (.ireturn, 1) := by decide +kernel
theorem dX0_hasPlace_0 : decode cX0_hasPlace 0 = .ok (.iload_n 1, 1) := by decide +kernel
theorem dX0_hasPlace_1 : decode cX0_hasPlace 1 = .ok (.ifCond .lt 21, 3) := by decide +kernel
theorem dX0_hasPlace_4 : decode cX0_hasPlace 4 = .ok (.iload_n 1, 1) := by decide +kernel
theorem dX0_hasPlace_5 : decode cX0_hasPlace 5 = .ok (.aload_n 0, 1) := by decide +kernel
theorem dX0_hasPlace_6 : decode cX0_hasPlace 6 = .ok (.getfield 9, 3) := by decide +kernel
theorem dX0_hasPlace_9 : decode cX0_hasPlace 9 = .ok (.if_icmp .ge 13, 3) := by decide +kernel
theorem dX0_hasPlace_12 : decode cX0_hasPlace 12 = .ok (.iload_n 1, 1) := by decide +kernel
theorem dX0_hasPlace_13 : decode cX0_hasPlace 13 = .ok (.bipush 32, 2) := by decide +kernel
theorem dX0_hasPlace_15 : decode cX0_hasPlace 15 = .ok (.if_icmp .ge 7, 3) := by decide +kernel
theorem dX0_hasPlace_18 : decode cX0_hasPlace 18 = .ok (.iconst 1, 1) := by decide +kernel
theorem dX0_hasPlace_19 : decode cX0_hasPlace 19 = .ok (.goto 4, 3) := by decide +kernel
theorem dX0_hasPlace_22 : decode cX0_hasPlace 22 = .ok (.iconst 0, 1) := by decide +kernel
theorem dX0_hasPlace_23 : decode cX0_hasPlace 23 = .ok (.ireturn, 1) := by decide +kernel
set_option maxRecDepth 20000 in
theorem ggX0_roundOf_X0_hasPlace : GoodIn wsX0_roundOf wsX0_hasPlace := goodIn_r _ [6, 7, 8, 9, 10, 11, 12, 13, 14, 15, 16] (by decide +kernel) (by decide +kernel)
set_option maxRecDepth 20000 in
theorem gX0_roundOf_X0_hasPlace : GoodIn wsX0_roundOf (wsV RX0 63 RX0 yX0_hasPlace wsX0_hasPlace) := goodIn_app (goodIn_of _ (by decide +kernel)) ggX0_roundOf_X0_hasPlace
theorem dX0_roundOf_0 : decode cX0_roundOf 0 = .ok (.aload_n 0, 1) := by decide +kernel
theorem dX0_roundOf_1 : decode cX0_roundOf 1 = .ok (.iload_n 1, 1) := by decide +kernel
theorem dX0_roundOf_2 : decode cX0_roundOf 2 = .ok (.invokevirtual 63, 3) := by decide +kernel
theorem dX0_roundOf_5 : decode cX0_roundOf 5 = .ok (.ifCond .eq 12, 3) := by decide +kernel
theorem dX0_roundOf_8 : decode cX0_roundOf 8 = .ok (.aload_n 0, 1) := by decide +kernel
theorem dX0_roundOf_9 : decode cX0_roundOf 9 = .ok (.getfield 15, 3) := by decide +kernel
theorem dX0_roundOf_12 : decode cX0_roundOf 12 = .ok (.iload_n 1, 1) := by decide +kernel
theorem dX0_roundOf_13 : decode cX0_roundOf 13 = .ok (.iaload, 1) := by decide +kernel
theorem dX0_roundOf_14 : decode cX0_roundOf 14 = .ok (.goto 4, 3) := by decide +kernel
theorem dX0_roundOf_17 : decode cX0_roundOf 17 = .ok (.iconst 0, 1) := by decide +kernel
theorem dX0_roundOf_18 : decode cX0_roundOf 18 = .ok (.ireturn, 1) := by decide +kernel
set_option maxRecDepth 20000 in
theorem ggX0_isWritten_X0_roundOf : GoodIn wsX0_isWritten wsX0_roundOf := goodIn_r _ [5, 6, 7, 8, 9, 4, 10, 11, 12, 13, 14, 15, 16, 17, 18, 19, 20] (by decide +kernel) (by decide +kernel)
set_option maxRecDepth 20000 in
theorem gX0_isWritten_X0_roundOf : GoodIn wsX0_isWritten (wsV RX0 67 RX0 yX0_roundOf wsX0_roundOf) := goodIn_app (goodIn_of _ (by decide +kernel)) ggX0_isWritten_X0_roundOf
theorem dX0_isWritten_0 : decode cX0_isWritten 0 = .ok (.aload_n 0, 1) := by decide +kernel
theorem dX0_isWritten_1 : decode cX0_isWritten 1 = .ok (.iload_n 1, 1) := by decide +kernel
theorem dX0_isWritten_2 : decode cX0_isWritten 2 = .ok (.invokevirtual 67, 3) := by decide +kernel
theorem dX0_isWritten_5 : decode cX0_isWritten 5 = .ok (.ifCond .eq 7, 3) := by decide +kernel
theorem dX0_isWritten_8 : decode cX0_isWritten 8 = .ok (.iconst 1, 1) := by decide +kernel
theorem dX0_isWritten_9 : decode cX0_isWritten 9 = .ok (.goto 4, 3) := by decide +kernel
theorem dX0_isWritten_12 : decode cX0_isWritten 12 = .ok (.iconst 0, 1) := by decide +kernel
theorem dX0_isWritten_13 : decode cX0_isWritten 13 = .ok (.ireturn, 1) := by decide +kernel
theorem dX0_sideOf_0 : decode cX0_sideOf 0 = .ok (.iload_n 1, 1) := by decide +kernel
theorem dX0_sideOf_1 : decode cX0_sideOf 1 = .ok (.ifCond .ne 10, 3) := by decide +kernel
theorem dX0_sideOf_4 : decode cX0_sideOf 4 = .ok (.aload_n 0, 1) := by decide +kernel
theorem dX0_sideOf_5 : decode cX0_sideOf 5 = .ok (.getfield 22, 3) := by decide +kernel
theorem dX0_sideOf_8 : decode cX0_sideOf 8 = .ok (.goto 7, 3) := by decide +kernel
theorem dX0_sideOf_11 : decode cX0_sideOf 11 = .ok (.aload_n 0, 1) := by decide +kernel
theorem dX0_sideOf_12 : decode cX0_sideOf 12 = .ok (.getfield 26, 3) := by decide +kernel
theorem dX0_sideOf_15 : decode cX0_sideOf 15 = .ok (.areturn, 1) := by decide +kernel
set_option maxRecDepth 20000 in
theorem ggX0_isBelieved_X0_roundOf : GoodIn wsX0_isBelieved wsX0_roundOf := goodIn_r _ [5, 6, 7, 8, 9, 4, 10, 11, 27, 28, 29, 30, 31, 32, 33, 34, 35] (by decide +kernel) (by decide +kernel)
set_option maxRecDepth 20000 in
theorem gX0_isBelieved_X0_roundOf : GoodIn wsX0_isBelieved (wsV RX0 67 RX0 yX0_roundOf wsX0_roundOf) := goodIn_app (goodIn_of _ (by decide +kernel)) ggX0_isBelieved_X0_roundOf
set_option maxRecDepth 20000 in
theorem ggX0_isBelieved_X3_reasonAgainst : GoodIn wsX0_isBelieved wsX3_reasonAgainst := goodIn_r _ [15, 16, 17, 18, 19, 20, 21, 22, 13, 23, 24, 25, 26, 36, 37, 38, 39, 40] (by decide +kernel) (by decide +kernel)
set_option maxRecDepth 20000 in
theorem gX0_isBelieved_X3_reasonAgainst_n71 : GoodIn wsX0_isBelieved (wsX3_reasonAgainst) := ggX0_isBelieved_X3_reasonAgainst
theorem dX0_isBelieved_0 : decode cX0_isBelieved 0 = .ok (.aload_n 1, 1) := by decide +kernel
theorem dX0_isBelieved_1 : decode cX0_isBelieved 1 = .ok (.iload_n 2, 1) := by decide +kernel
theorem dX0_isBelieved_2 : decode cX0_isBelieved 2 = .ok (.aload_n 0, 1) := by decide +kernel
theorem dX0_isBelieved_3 : decode cX0_isBelieved 3 = .ok (.iload_n 2, 1) := by decide +kernel
theorem dX0_isBelieved_4 : decode cX0_isBelieved 4 = .ok (.invokevirtual 67, 3) := by decide +kernel
theorem dX0_isBelieved_7 : decode cX0_isBelieved 7 = .ok (.invokevirtual 71, 3) := by decide +kernel
theorem dX0_isBelieved_10 : decode cX0_isBelieved 10 = .ok (.ifCond .ne 7, 3) := by decide +kernel
theorem dX0_isBelieved_13 : decode cX0_isBelieved 13 = .ok (.iconst 1, 1) := by decide +kernel
theorem dX0_isBelieved_14 : decode cX0_isBelieved 14 = .ok (.goto 4, 3) := by decide +kernel
theorem dX0_isBelieved_17 : decode cX0_isBelieved 17 = .ok (.iconst 0, 1) := by decide +kernel
theorem dX0_isBelieved_18 : decode cX0_isBelieved 18 = .ok (.ireturn, 1) := by decide +kernel
set_option maxRecDepth 20000 in
theorem ggX0_store_X0_hasPlace : GoodIn wsX0_store wsX0_hasPlace := goodIn_r _ [10, 2, 27, 28, 29, 30, 31, 32, 33, 34, 35] (by decide +kernel) (by decide +kernel)
set_option maxRecDepth 20000 in
theorem gX0_store_X0_hasPlace : GoodIn wsX0_store (wsV RX0 63 RX0 yX0_hasPlace wsX0_hasPlace) := goodIn_app (goodIn_of _ (by decide +kernel)) ggX0_store_X0_hasPlace
set_option maxRecDepth 20000 in
theorem ggX0_store_X3_receive : GoodIn wsX0_store wsX3_receive := goodIn_r _ [14, 15, 16, 17, 12, 18, 19, 20, 21, 22, 23, 24, 25, 26, 36, 37, 38, 39, 40] (by decide +kernel) (by decide +kernel)
set_option maxRecDepth 20000 in
theorem gX0_store_X3_receive_n75 : GoodIn wsX0_store (wsX3_receive) := ggX0_store_X3_receive
theorem dX0_store_0 : decode cX0_store 0 = .ok (.aload_n 0, 1) := by decide +kernel
theorem dX0_store_1 : decode cX0_store 1 = .ok (.iload_n 1, 1) := by decide +kernel
theorem dX0_store_2 : decode cX0_store 2 = .ok (.invokevirtual 63, 3) := by decide +kernel
theorem dX0_store_5 : decode cX0_store 5 = .ok (.ifCond .ne 5, 3) := by decide +kernel
theorem dX0_store_8 : decode cX0_store 8 = .ok (.iconst (-1), 1) := by decide +kernel
theorem dX0_store_9 : decode cX0_store 9 = .ok (.ireturn, 1) := by decide +kernel
theorem dX0_store_10 : decode cX0_store 10 = .ok (.iload_n 2, 1) := by decide +kernel
theorem dX0_store_11 : decode cX0_store 11 = .ok (.ifCond .lt 10, 3) := by decide +kernel
theorem dX0_store_14 : decode cX0_store 14 = .ok (.iload_n 2, 1) := by decide +kernel
theorem dX0_store_15 : decode cX0_store 15 = .ok (.sipush 9999, 3) := by decide +kernel
theorem dX0_store_18 : decode cX0_store 18 = .ok (.if_icmp .le 6, 3) := by decide +kernel
theorem dX0_store_21 : decode cX0_store 21 = .ok (.bipush (-2), 2) := by decide +kernel
theorem dX0_store_23 : decode cX0_store 23 = .ok (.ireturn, 1) := by decide +kernel
theorem dX0_store_24 : decode cX0_store 24 = .ok (.aload_n 0, 1) := by decide +kernel
theorem dX0_store_25 : decode cX0_store 25 = .ok (.getfield 15, 3) := by decide +kernel
theorem dX0_store_28 : decode cX0_store 28 = .ok (.iload_n 1, 1) := by decide +kernel
theorem dX0_store_29 : decode cX0_store 29 = .ok (.iaload, 1) := by decide +kernel
theorem dX0_store_30 : decode cX0_store 30 = .ok (.iconst 1, 1) := by decide +kernel
theorem dX0_store_31 : decode cX0_store 31 = .ok (.iadd, 1) := by decide +kernel
theorem dX0_store_32 : decode cX0_store 32 = .ok (.istore_n 3, 1) := by decide +kernel
theorem dX0_store_33 : decode cX0_store 33 = .ok (.iload_n 3, 1) := by decide +kernel
theorem dX0_store_34 : decode cX0_store 34 = .ok (.sipush 999, 3) := by decide +kernel
theorem dX0_store_37 : decode cX0_store 37 = .ok (.if_icmp .le 6, 3) := by decide +kernel
theorem dX0_store_40 : decode cX0_store 40 = .ok (.bipush (-4), 2) := by decide +kernel
theorem dX0_store_42 : decode cX0_store 42 = .ok (.ireturn, 1) := by decide +kernel
theorem dX0_store_43 : decode cX0_store 43 = .ok (.aload_n 0, 1) := by decide +kernel
theorem dX0_store_44 : decode cX0_store 44 = .ok (.getfield 15, 3) := by decide +kernel
theorem dX0_store_47 : decode cX0_store 47 = .ok (.iload_n 1, 1) := by decide +kernel
theorem dX0_store_48 : decode cX0_store 48 = .ok (.iload_n 3, 1) := by decide +kernel
theorem dX0_store_49 : decode cX0_store 49 = .ok (.iastore, 1) := by decide +kernel
theorem dX0_store_50 : decode cX0_store 50 = .ok (.iload_n 1, 1) := by decide +kernel
theorem dX0_store_51 : decode cX0_store 51 = .ok (.iconst 1, 1) := by decide +kernel
theorem dX0_store_52 : decode cX0_store 52 = .ok (.iadd, 1) := by decide +kernel
theorem dX0_store_53 : decode cX0_store 53 = .ok (.aload_n 0, 1) := by decide +kernel
theorem dX0_store_54 : decode cX0_store 54 = .ok (.getfield 9, 3) := by decide +kernel
theorem dX0_store_57 : decode cX0_store 57 = .ok (.if_icmp .ge 9, 3) := by decide +kernel
theorem dX0_store_60 : decode cX0_store 60 = .ok (.iload_n 1, 1) := by decide +kernel
theorem dX0_store_61 : decode cX0_store 61 = .ok (.iconst 1, 1) := by decide +kernel
theorem dX0_store_62 : decode cX0_store 62 = .ok (.iadd, 1) := by decide +kernel
theorem dX0_store_63 : decode cX0_store 63 = .ok (.goto 4, 3) := by decide +kernel
theorem dX0_store_66 : decode cX0_store 66 = .ok (.iconst 0, 1) := by decide +kernel
theorem dX0_store_67 : decode cX0_store 67 = .ok (.istore 4, 2) := by decide +kernel
theorem dX0_store_69 : decode cX0_store 69 = .ok (.aload_n 0, 1) := by decide +kernel
theorem dX0_store_70 : decode cX0_store 70 = .ok (.getfield 22, 3) := by decide +kernel
theorem dX0_store_73 : decode cX0_store 73 = .ok (.iload_n 1, 1) := by decide +kernel
theorem dX0_store_74 : decode cX0_store 74 = .ok (.iload 4, 2) := by decide +kernel
theorem dX0_store_76 : decode cX0_store 76 = .ok (.iload_n 3, 1) := by decide +kernel
theorem dX0_store_77 : decode cX0_store 77 = .ok (.iload_n 2, 1) := by decide +kernel
theorem dX0_store_78 : decode cX0_store 78 = .ok (.invokevirtual 75, 3) := by decide +kernel
theorem dX0_store_81 : decode cX0_store 81 = .ok (.aload_n 0, 1) := by decide +kernel
theorem dX0_store_82 : decode cX0_store 82 = .ok (.getfield 26, 3) := by decide +kernel
theorem dX0_store_85 : decode cX0_store 85 = .ok (.iload_n 1, 1) := by decide +kernel
theorem dX0_store_86 : decode cX0_store 86 = .ok (.iload 4, 2) := by decide +kernel
theorem dX0_store_88 : decode cX0_store 88 = .ok (.iload_n 3, 1) := by decide +kernel
theorem dX0_store_89 : decode cX0_store 89 = .ok (.iload_n 2, 1) := by decide +kernel
theorem dX0_store_90 : decode cX0_store 90 = .ok (.invokevirtual 75, 3) := by decide +kernel
theorem dX0_store_93 : decode cX0_store 93 = .ok (.aload_n 0, 1) := by decide +kernel
theorem dX0_store_94 : decode cX0_store 94 = .ok (.dup, 1) := by decide +kernel
theorem dX0_store_95 : decode cX0_store 95 = .ok (.getfield 39, 3) := by decide +kernel
theorem dX0_store_98 : decode cX0_store 98 = .ok (.iconst 1, 1) := by decide +kernel
theorem dX0_store_99 : decode cX0_store 99 = .ok (.iadd, 1) := by decide +kernel
theorem dX0_store_100 : decode cX0_store 100 = .ok (.putfield 39, 3) := by decide +kernel
theorem dX0_store_103 : decode cX0_store 103 = .ok (.iload_n 3, 1) := by decide +kernel
theorem dX0_store_104 : decode cX0_store 104 = .ok (.ireturn, 1) := by decide +kernel
set_option maxRecDepth 20000 in
theorem ggX0_expect_X4_isSide : GoodIn wsX0_expect wsX4_isSide := goodIn_r _ [3] (by decide +kernel) (by decide +kernel)
set_option maxRecDepth 20000 in
theorem gX0_expect_X4_isSide_n79 : GoodIn wsX0_expect (wsX4_isSide) := ggX0_expect_X4_isSide
set_option maxRecDepth 20000 in
theorem ggX0_expect_X0_sideOf : GoodIn wsX0_expect wsX0_sideOf := goodIn_r _ [8, 9, 10, 16, 17, 18, 19, 20, 21, 22, 23, 24] (by decide +kernel) (by decide +kernel)
set_option maxRecDepth 20000 in
theorem gX0_expect_X0_sideOf : GoodIn wsX0_expect (wsV RX0 82 RX0 yX0_sideOf wsX0_sideOf) := goodIn_app (goodIn_of _ (by decide +kernel)) ggX0_expect_X0_sideOf
theorem dX0_expect_0 : decode cX0_expect 0 = .ok (.iload_n 1, 1) := by decide +kernel
theorem dX0_expect_1 : decode cX0_expect 1 = .ok (.invokestatic 79, 3) := by decide +kernel
theorem dX0_expect_4 : decode cX0_expect 4 = .ok (.ifCond .ne 5, 3) := by decide +kernel
theorem dX0_expect_7 : decode cX0_expect 7 = .ok (.iconst (-1), 1) := by decide +kernel
theorem dX0_expect_8 : decode cX0_expect 8 = .ok (.ireturn, 1) := by decide +kernel
theorem dX0_expect_9 : decode cX0_expect 9 = .ok (.iload_n 2, 1) := by decide +kernel
theorem dX0_expect_10 : decode cX0_expect 10 = .ok (.ifCond .lt 8, 3) := by decide +kernel
theorem dX0_expect_13 : decode cX0_expect 13 = .ok (.iload_n 2, 1) := by decide +kernel
theorem dX0_expect_14 : decode cX0_expect 14 = .ok (.iconst 4, 1) := by decide +kernel
theorem dX0_expect_15 : decode cX0_expect 15 = .ok (.if_icmp .le 6, 3) := by decide +kernel
theorem dX0_expect_18 : decode cX0_expect 18 = .ok (.bipush (-2), 2) := by decide +kernel
theorem dX0_expect_20 : decode cX0_expect 20 = .ok (.ireturn, 1) := by decide +kernel
theorem dX0_expect_21 : decode cX0_expect 21 = .ok (.aload_n 0, 1) := by decide +kernel
theorem dX0_expect_22 : decode cX0_expect 22 = .ok (.iload_n 1, 1) := by decide +kernel
theorem dX0_expect_23 : decode cX0_expect 23 = .ok (.invokevirtual 82, 3) := by decide +kernel
theorem dX0_expect_26 : decode cX0_expect 26 = .ok (.astore_n 3, 1) := by decide +kernel
theorem dX0_expect_27 : decode cX0_expect 27 = .ok (.aload_n 3, 1) := by decide +kernel
theorem dX0_expect_28 : decode cX0_expect 28 = .ok (.getfield 86, 3) := by decide +kernel
theorem dX0_expect_31 : decode cX0_expect 31 = .ok (.istore 4, 2) := by decide +kernel
theorem dX0_expect_33 : decode cX0_expect 33 = .ok (.aload_n 3, 1) := by decide +kernel
theorem dX0_expect_34 : decode cX0_expect 34 = .ok (.iload_n 2, 1) := by decide +kernel
theorem dX0_expect_35 : decode cX0_expect 35 = .ok (.putfield 86, 3) := by decide +kernel
theorem dX0_expect_38 : decode cX0_expect 38 = .ok (.iload 4, 2) := by decide +kernel
theorem dX0_expect_40 : decode cX0_expect 40 = .ok (.ireturn, 1) := by decide +kernel
set_option maxRecDepth 20000 in
theorem ggX0_empty_X4_isSide : GoodIn wsX0_empty wsX4_isSide := goodIn_r _ [3] (by decide +kernel) (by decide +kernel)
set_option maxRecDepth 20000 in
theorem gX0_empty_X4_isSide_n79 : GoodIn wsX0_empty (wsX4_isSide) := ggX0_empty_X4_isSide
set_option maxRecDepth 20000 in
theorem ggX0_empty_X0_hasPlace : GoodIn wsX0_empty wsX0_hasPlace := goodIn_r _ [8, 9, 25, 26, 27, 28, 29, 30, 31, 32, 33] (by decide +kernel) (by decide +kernel)
set_option maxRecDepth 20000 in
theorem gX0_empty_X0_hasPlace : GoodIn wsX0_empty (wsV RX0 63 RX0 yX0_hasPlace wsX0_hasPlace) := goodIn_app (goodIn_of _ (by decide +kernel)) ggX0_empty_X0_hasPlace
set_option maxRecDepth 20000 in
theorem ggX0_empty_X0_sideOf : GoodIn wsX0_empty wsX0_sideOf := goodIn_r _ [13, 14, 15, 25, 26, 27, 28, 29, 30, 31, 32, 33] (by decide +kernel) (by decide +kernel)
set_option maxRecDepth 20000 in
theorem gX0_empty_X0_sideOf : GoodIn wsX0_empty (wsV RX0 82 RX0 yX0_sideOf wsX0_sideOf) := goodIn_app (goodIn_of _ (by decide +kernel)) ggX0_empty_X0_sideOf
set_option maxRecDepth 20000 in
theorem ggX0_empty_X3_take : GoodIn wsX0_empty wsX3_take := goodIn_r _ [19, 20, 21, 22, 23, 17, 24, 34, 35, 36, 37, 38] (by decide +kernel) (by decide +kernel)
set_option maxRecDepth 20000 in
theorem gX0_empty_X3_take_n89 : GoodIn wsX0_empty (wsX3_take) := ggX0_empty_X3_take
theorem dX0_empty_0 : decode cX0_empty 0 = .ok (.iload_n 1, 1) := by decide +kernel
theorem dX0_empty_1 : decode cX0_empty 1 = .ok (.invokestatic 79, 3) := by decide +kernel
theorem dX0_empty_4 : decode cX0_empty 4 = .ok (.ifCond .eq 11, 3) := by decide +kernel
theorem dX0_empty_7 : decode cX0_empty 7 = .ok (.aload_n 0, 1) := by decide +kernel
theorem dX0_empty_8 : decode cX0_empty 8 = .ok (.iload_n 2, 1) := by decide +kernel
theorem dX0_empty_9 : decode cX0_empty 9 = .ok (.invokevirtual 63, 3) := by decide +kernel
theorem dX0_empty_12 : decode cX0_empty 12 = .ok (.ifCond .ne 5, 3) := by decide +kernel
theorem dX0_empty_15 : decode cX0_empty 15 = .ok (.iconst (-1), 1) := by decide +kernel
theorem dX0_empty_16 : decode cX0_empty 16 = .ok (.ireturn, 1) := by decide +kernel
theorem dX0_empty_17 : decode cX0_empty 17 = .ok (.aload_n 0, 1) := by decide +kernel
theorem dX0_empty_18 : decode cX0_empty 18 = .ok (.iload_n 1, 1) := by decide +kernel
theorem dX0_empty_19 : decode cX0_empty 19 = .ok (.invokevirtual 82, 3) := by decide +kernel
theorem dX0_empty_22 : decode cX0_empty 22 = .ok (.iload_n 2, 1) := by decide +kernel
theorem dX0_empty_23 : decode cX0_empty 23 = .ok (.invokevirtual 89, 3) := by decide +kernel
theorem dX0_empty_26 : decode cX0_empty 26 = .ok (.ireturn, 1) := by decide +kernel
set_option maxRecDepth 20000 in
theorem ggX0_fetch_X0_hasPlace : GoodIn wsX0_fetch wsX0_hasPlace := goodIn_r _ [10, 11, 43, 44, 45, 46, 47, 48, 49, 50, 51] (by decide +kernel) (by decide +kernel)
set_option maxRecDepth 20000 in
theorem gX0_fetch_X0_hasPlace : GoodIn wsX0_fetch (wsV RX0 63 RX0 yX0_hasPlace wsX0_hasPlace) := goodIn_app (goodIn_of _ (by decide +kernel)) ggX0_fetch_X0_hasPlace
set_option maxRecDepth 20000 in
theorem ggX0_fetch_X0_isWritten : GoodIn wsX0_fetch wsX0_isWritten := goodIn_r _ [15, 16, 17, 18, 9, 19, 20, 6, 7, 8, 10, 11, 43, 44, 45, 46, 47, 48, 49, 50, 51] (by decide +kernel) (by decide +kernel)
set_option maxRecDepth 20000 in
theorem gX0_fetch_X0_isWritten : GoodIn wsX0_fetch (wsV RX0 92 RX0 yX0_isWritten wsX0_isWritten) := goodIn_app (goodIn_of _ (by decide +kernel)) ggX0_fetch_X0_isWritten
set_option maxRecDepth 20000 in
theorem ggX0_fetch_X0_isBelieved : GoodIn wsX0_fetch wsX0_isBelieved := goodIn_r _ [24, 16, 17, 18, 9, 19, 20, 6, 7, 8, 10, 11, 25, 26, 27, 28, 29, 30, 31, 32, 33, 34, 35, 36, 37, 38, 39, 43, 44, 45, 46, 47, 48, 49, 50, 51, 52, 53, 54, 55, 56] (by decide +kernel) (by decide +kernel)
set_option maxRecDepth 20000 in
theorem gX0_fetch_X0_isBelieved : GoodIn wsX0_fetch (wsV RX0 95 RX0 yX0_isBelieved wsX0_isBelieved) := goodIn_app (goodIn_of _ (by decide +kernel)) ggX0_fetch_X0_isBelieved
set_option maxRecDepth 20000 in
theorem ggX0_fetch_X3_dataAt : GoodIn wsX0_fetch wsX3_dataAt := goodIn_r _ [42, 32, 33, 34, 35, 26, 36, 31, 52, 53, 54, 55, 56] (by decide +kernel) (by decide +kernel)
set_option maxRecDepth 20000 in
theorem gX0_fetch_X3_dataAt_n99 : GoodIn wsX0_fetch (wsX3_dataAt) := ggX0_fetch_X3_dataAt
theorem dX0_fetch_0 : decode cX0_fetch 0 = .ok (.aload_n 0, 1) := by decide +kernel
theorem dX0_fetch_1 : decode cX0_fetch 1 = .ok (.iload_n 1, 1) := by decide +kernel
theorem dX0_fetch_2 : decode cX0_fetch 2 = .ok (.invokevirtual 63, 3) := by decide +kernel
theorem dX0_fetch_5 : decode cX0_fetch 5 = .ok (.ifCond .ne 5, 3) := by decide +kernel
theorem dX0_fetch_8 : decode cX0_fetch 8 = .ok (.iconst (-1), 1) := by decide +kernel
theorem dX0_fetch_9 : decode cX0_fetch 9 = .ok (.ireturn, 1) := by decide +kernel
theorem dX0_fetch_10 : decode cX0_fetch 10 = .ok (.aload_n 0, 1) := by decide +kernel
theorem dX0_fetch_11 : decode cX0_fetch 11 = .ok (.dup, 1) := by decide +kernel
theorem dX0_fetch_12 : decode cX0_fetch 12 = .ok (.getfield 42, 3) := by decide +kernel
theorem dX0_fetch_15 : decode cX0_fetch 15 = .ok (.iconst 1, 1) := by decide +kernel
theorem dX0_fetch_16 : decode cX0_fetch 16 = .ok (.iadd, 1) := by decide +kernel
theorem dX0_fetch_17 : decode cX0_fetch 17 = .ok (.putfield 42, 3) := by decide +kernel
theorem dX0_fetch_20 : decode cX0_fetch 20 = .ok (.aload_n 0, 1) := by decide +kernel
theorem dX0_fetch_21 : decode cX0_fetch 21 = .ok (.iload_n 1, 1) := by decide +kernel
theorem dX0_fetch_22 : decode cX0_fetch 22 = .ok (.invokevirtual 92, 3) := by decide +kernel
theorem dX0_fetch_25 : decode cX0_fetch 25 = .ok (.ifCond .ne 5, 3) := by decide +kernel
theorem dX0_fetch_28 : decode cX0_fetch 28 = .ok (.iconst 0, 1) := by decide +kernel
theorem dX0_fetch_29 : decode cX0_fetch 29 = .ok (.ireturn, 1) := by decide +kernel
theorem dX0_fetch_30 : decode cX0_fetch 30 = .ok (.aload_n 0, 1) := by decide +kernel
theorem dX0_fetch_31 : decode cX0_fetch 31 = .ok (.aload_n 0, 1) := by decide +kernel
theorem dX0_fetch_32 : decode cX0_fetch 32 = .ok (.getfield 22, 3) := by decide +kernel
theorem dX0_fetch_35 : decode cX0_fetch 35 = .ok (.iload_n 1, 1) := by decide +kernel
theorem dX0_fetch_36 : decode cX0_fetch 36 = .ok (.invokevirtual 95, 3) := by decide +kernel
theorem dX0_fetch_39 : decode cX0_fetch 39 = .ok (.ifCond .eq 12, 3) := by decide +kernel
theorem dX0_fetch_42 : decode cX0_fetch 42 = .ok (.aload_n 0, 1) := by decide +kernel
theorem dX0_fetch_43 : decode cX0_fetch 43 = .ok (.getfield 22, 3) := by decide +kernel
theorem dX0_fetch_46 : decode cX0_fetch 46 = .ok (.iload_n 1, 1) := by decide +kernel
theorem dX0_fetch_47 : decode cX0_fetch 47 = .ok (.invokevirtual 99, 3) := by decide +kernel
theorem dX0_fetch_50 : decode cX0_fetch 50 = .ok (.ireturn, 1) := by decide +kernel
theorem dX0_fetch_51 : decode cX0_fetch 51 = .ok (.aload_n 0, 1) := by decide +kernel
theorem dX0_fetch_52 : decode cX0_fetch 52 = .ok (.dup, 1) := by decide +kernel
theorem dX0_fetch_53 : decode cX0_fetch 53 = .ok (.getfield 45, 3) := by decide +kernel
theorem dX0_fetch_56 : decode cX0_fetch 56 = .ok (.iconst 1, 1) := by decide +kernel
theorem dX0_fetch_57 : decode cX0_fetch 57 = .ok (.iadd, 1) := by decide +kernel
theorem dX0_fetch_58 : decode cX0_fetch 58 = .ok (.putfield 45, 3) := by decide +kernel
theorem dX0_fetch_61 : decode cX0_fetch 61 = .ok (.aload_n 0, 1) := by decide +kernel
theorem dX0_fetch_62 : decode cX0_fetch 62 = .ok (.aload_n 0, 1) := by decide +kernel
theorem dX0_fetch_63 : decode cX0_fetch 63 = .ok (.getfield 26, 3) := by decide +kernel
theorem dX0_fetch_66 : decode cX0_fetch 66 = .ok (.iload_n 1, 1) := by decide +kernel
theorem dX0_fetch_67 : decode cX0_fetch 67 = .ok (.invokevirtual 95, 3) := by decide +kernel
theorem dX0_fetch_70 : decode cX0_fetch 70 = .ok (.ifCond .eq 12, 3) := by decide +kernel
theorem dX0_fetch_73 : decode cX0_fetch 73 = .ok (.aload_n 0, 1) := by decide +kernel
theorem dX0_fetch_74 : decode cX0_fetch 74 = .ok (.getfield 26, 3) := by decide +kernel
theorem dX0_fetch_77 : decode cX0_fetch 77 = .ok (.iload_n 1, 1) := by decide +kernel
theorem dX0_fetch_78 : decode cX0_fetch 78 = .ok (.invokevirtual 99, 3) := by decide +kernel
theorem dX0_fetch_81 : decode cX0_fetch 81 = .ok (.ireturn, 1) := by decide +kernel
theorem dX0_fetch_82 : decode cX0_fetch 82 = .ok (.aload_n 0, 1) := by decide +kernel
theorem dX0_fetch_83 : decode cX0_fetch 83 = .ok (.dup, 1) := by decide +kernel
theorem dX0_fetch_84 : decode cX0_fetch 84 = .ok (.getfield 48, 3) := by decide +kernel
theorem dX0_fetch_87 : decode cX0_fetch 87 = .ok (.iconst 1, 1) := by decide +kernel
theorem dX0_fetch_88 : decode cX0_fetch 88 = .ok (.iadd, 1) := by decide +kernel
theorem dX0_fetch_89 : decode cX0_fetch 89 = .ok (.putfield 48, 3) := by decide +kernel
theorem dX0_fetch_92 : decode cX0_fetch 92 = .ok (.bipush (-6), 2) := by decide +kernel
theorem dX0_fetch_94 : decode cX0_fetch 94 = .ok (.ireturn, 1) := by decide +kernel
set_option maxRecDepth 20000 in
theorem ggX0_repair_X0_hasPlace : GoodIn wsX0_repair wsX0_hasPlace := goodIn_r _ [8, 9, 41, 42, 43, 44, 45, 46, 47, 48, 49] (by decide +kernel) (by decide +kernel)
set_option maxRecDepth 20000 in
theorem gX0_repair_X0_hasPlace : GoodIn wsX0_repair (wsV RX0 63 RX0 yX0_hasPlace wsX0_hasPlace) := goodIn_app (goodIn_of _ (by decide +kernel)) ggX0_repair_X0_hasPlace
set_option maxRecDepth 20000 in
theorem ggX0_repair_X0_isBelieved : GoodIn wsX0_repair wsX0_isBelieved := goodIn_r _ [13, 14, 15, 16, 7, 17, 18, 4, 5, 6, 8, 9, 19, 20, 21, 22, 23, 24, 25, 26, 27, 28, 29, 30, 31, 32, 33, 41, 42, 43, 44, 45, 46, 47, 48, 49, 50, 51, 52, 53, 54] (by decide +kernel) (by decide +kernel)
set_option maxRecDepth 20000 in
theorem gX0_repair_X0_isBelieved : GoodIn wsX0_repair (wsV RX0 95 RX0 yX0_isBelieved wsX0_isBelieved) := goodIn_app (goodIn_of _ (by decide +kernel)) ggX0_repair_X0_isBelieved
set_option maxRecDepth 20000 in
theorem ggX0_repair_X3_copyBlock : GoodIn wsX0_repair wsX3_copyBlock := goodIn_r _ [36, 24, 25, 26, 23, 27, 28, 29, 20, 30, 37, 38, 39, 40, 50, 51, 52, 53, 54] (by decide +kernel) (by decide +kernel)
set_option maxRecDepth 20000 in
theorem gX0_repair_X3_copyBlock_n102 : GoodIn wsX0_repair (wsX3_copyBlock) := ggX0_repair_X3_copyBlock
theorem dX0_repair_0 : decode cX0_repair 0 = .ok (.aload_n 0, 1) := by decide +kernel
theorem dX0_repair_1 : decode cX0_repair 1 = .ok (.iload_n 1, 1) := by decide +kernel
theorem dX0_repair_2 : decode cX0_repair 2 = .ok (.invokevirtual 63, 3) := by decide +kernel
theorem dX0_repair_5 : decode cX0_repair 5 = .ok (.ifCond .ne 5, 3) := by decide +kernel
theorem dX0_repair_8 : decode cX0_repair 8 = .ok (.iconst (-1), 1) := by decide +kernel
theorem dX0_repair_9 : decode cX0_repair 9 = .ok (.ireturn, 1) := by decide +kernel
theorem dX0_repair_10 : decode cX0_repair 10 = .ok (.aload_n 0, 1) := by decide +kernel
theorem dX0_repair_11 : decode cX0_repair 11 = .ok (.aload_n 0, 1) := by decide +kernel
theorem dX0_repair_12 : decode cX0_repair 12 = .ok (.getfield 22, 3) := by decide +kernel
theorem dX0_repair_15 : decode cX0_repair 15 = .ok (.iload_n 1, 1) := by decide +kernel
theorem dX0_repair_16 : decode cX0_repair 16 = .ok (.invokevirtual 95, 3) := by decide +kernel
theorem dX0_repair_19 : decode cX0_repair 19 = .ok (.istore_n 2, 1) := by decide +kernel
theorem dX0_repair_20 : decode cX0_repair 20 = .ok (.iload_n 2, 1) := by decide +kernel
theorem dX0_repair_21 : decode cX0_repair 21 = .ok (.aload_n 0, 1) := by decide +kernel
theorem dX0_repair_22 : decode cX0_repair 22 = .ok (.aload_n 0, 1) := by decide +kernel
theorem dX0_repair_23 : decode cX0_repair 23 = .ok (.getfield 26, 3) := by decide +kernel
theorem dX0_repair_26 : decode cX0_repair 26 = .ok (.iload_n 1, 1) := by decide +kernel
theorem dX0_repair_27 : decode cX0_repair 27 = .ok (.invokevirtual 95, 3) := by decide +kernel
theorem dX0_repair_30 : decode cX0_repair 30 = .ok (.if_icmp .ne 5, 3) := by decide +kernel
theorem dX0_repair_33 : decode cX0_repair 33 = .ok (.iconst 0, 1) := by decide +kernel
theorem dX0_repair_34 : decode cX0_repair 34 = .ok (.ireturn, 1) := by decide +kernel
theorem dX0_repair_35 : decode cX0_repair 35 = .ok (.aload_n 0, 1) := by decide +kernel
theorem dX0_repair_36 : decode cX0_repair 36 = .ok (.dup, 1) := by decide +kernel
theorem dX0_repair_37 : decode cX0_repair 37 = .ok (.getfield 51, 3) := by decide +kernel
theorem dX0_repair_40 : decode cX0_repair 40 = .ok (.iconst 1, 1) := by decide +kernel
theorem dX0_repair_41 : decode cX0_repair 41 = .ok (.iadd, 1) := by decide +kernel
theorem dX0_repair_42 : decode cX0_repair 42 = .ok (.putfield 51, 3) := by decide +kernel
theorem dX0_repair_45 : decode cX0_repair 45 = .ok (.iload_n 2, 1) := by decide +kernel
theorem dX0_repair_46 : decode cX0_repair 46 = .ok (.ifCond .eq 17, 3) := by decide +kernel
theorem dX0_repair_49 : decode cX0_repair 49 = .ok (.aload_n 0, 1) := by decide +kernel
theorem dX0_repair_50 : decode cX0_repair 50 = .ok (.getfield 26, 3) := by decide +kernel
theorem dX0_repair_53 : decode cX0_repair 53 = .ok (.aload_n 0, 1) := by decide +kernel
theorem dX0_repair_54 : decode cX0_repair 54 = .ok (.getfield 22, 3) := by decide +kernel
theorem dX0_repair_57 : decode cX0_repair 57 = .ok (.iload_n 1, 1) := by decide +kernel
theorem dX0_repair_58 : decode cX0_repair 58 = .ok (.invokevirtual 102, 3) := by decide +kernel
theorem dX0_repair_61 : decode cX0_repair 61 = .ok (.iconst 2, 1) := by decide +kernel
theorem dX0_repair_62 : decode cX0_repair 62 = .ok (.ireturn, 1) := by decide +kernel
theorem dX0_repair_63 : decode cX0_repair 63 = .ok (.aload_n 0, 1) := by decide +kernel
theorem dX0_repair_64 : decode cX0_repair 64 = .ok (.getfield 22, 3) := by decide +kernel
theorem dX0_repair_67 : decode cX0_repair 67 = .ok (.aload_n 0, 1) := by decide +kernel
theorem dX0_repair_68 : decode cX0_repair 68 = .ok (.getfield 26, 3) := by decide +kernel
theorem dX0_repair_71 : decode cX0_repair 71 = .ok (.iload_n 1, 1) := by decide +kernel
theorem dX0_repair_72 : decode cX0_repair 72 = .ok (.invokevirtual 102, 3) := by decide +kernel
theorem dX0_repair_75 : decode cX0_repair 75 = .ok (.iconst 1, 1) := by decide +kernel
theorem dX0_repair_76 : decode cX0_repair 76 = .ok (.ireturn, 1) := by decide +kernel
set_option maxRecDepth 20000 in
theorem ggX0_repairAll_X0_repair : GoodIn wsX0_repairAll wsX0_repair := goodIn_r _ [7, 8, 9, 1, 10, 11, 12, 6, 13, 2, 14, 15, 16, 17, 18, 19, 20, 21, 22, 23, 24, 25, 26, 27, 28, 29, 30, 31, 32, 33, 34, 35, 36, 37, 38, 39, 40, 41, 42, 43, 44, 45, 46, 47, 48, 49, 50, 51, 52, 53, 54, 55, 56, 57, 58] (by decide +kernel) (by decide +kernel)
set_option maxRecDepth 20000 in
theorem gX0_repairAll_X0_repair : GoodIn wsX0_repairAll (wsV RX0 106 RX0 yX0_repair wsX0_repair) := goodIn_app (goodIn_of _ (by decide +kernel)) ggX0_repairAll_X0_repair
theorem dX0_repairAll_0 : decode cX0_repairAll 0 = .ok (.aload_n 0, 1) := by decide +kernel
theorem dX0_repairAll_1 : decode cX0_repairAll 1 = .ok (.getfield 51, 3) := by decide +kernel
theorem dX0_repairAll_4 : decode cX0_repairAll 4 = .ok (.istore_n 1, 1) := by decide +kernel
theorem dX0_repairAll_5 : decode cX0_repairAll 5 = .ok (.iconst 0, 1) := by decide +kernel
theorem dX0_repairAll_6 : decode cX0_repairAll 6 = .ok (.istore_n 2, 1) := by decide +kernel
theorem dX0_repairAll_7 : decode cX0_repairAll 7 = .ok (.iload_n 2, 1) := by decide +kernel
theorem dX0_repairAll_8 : decode cX0_repairAll 8 = .ok (.aload_n 0, 1) := by decide +kernel
theorem dX0_repairAll_9 : decode cX0_repairAll 9 = .ok (.getfield 9, 3) := by decide +kernel
theorem dX0_repairAll_12 : decode cX0_repairAll 12 = .ok (.if_icmp .ge 21, 3) := by decide +kernel
theorem dX0_repairAll_15 : decode cX0_repairAll 15 = .ok (.iload_n 2, 1) := by decide +kernel
theorem dX0_repairAll_16 : decode cX0_repairAll 16 = .ok (.bipush 32, 2) := by decide +kernel
theorem dX0_repairAll_18 : decode cX0_repairAll 18 = .ok (.if_icmp .ge 15, 3) := by decide +kernel
theorem dX0_repairAll_21 : decode cX0_repairAll 21 = .ok (.aload_n 0, 1) := by decide +kernel
theorem dX0_repairAll_22 : decode cX0_repairAll 22 = .ok (.iload_n 2, 1) := by decide +kernel
theorem dX0_repairAll_23 : decode cX0_repairAll 23 = .ok (.invokevirtual 106, 3) := by decide +kernel
theorem dX0_repairAll_26 : decode cX0_repairAll 26 = .ok (.pop, 1) := by decide +kernel
theorem dX0_repairAll_27 : decode cX0_repairAll 27 = .ok (.iinc 2 1, 3) := by decide +kernel
theorem dX0_repairAll_30 : decode cX0_repairAll 30 = .ok (.goto (-23), 3) := by decide +kernel
theorem dX0_repairAll_33 : decode cX0_repairAll 33 = .ok (.aload_n 0, 1) := by decide +kernel
theorem dX0_repairAll_34 : decode cX0_repairAll 34 = .ok (.getfield 51, 3) := by decide +kernel
theorem dX0_repairAll_37 : decode cX0_repairAll 37 = .ok (.iload_n 1, 1) := by decide +kernel
theorem dX0_repairAll_38 : decode cX0_repairAll 38 = .ok (.isub, 1) := by decide +kernel
theorem dX0_repairAll_39 : decode cX0_repairAll 39 = .ok (.ireturn, 1) := by decide +kernel
set_option maxRecDepth 20000 in
theorem ggX0_setOf_X0_belongs : GoodIn wsX0_setOf wsX0_belongs := goodIn_r _ [6, 7, 8, 9, 10, 11, 5, 12, 13, 14, 15, 16, 17, 18, 19, 20, 21, 1, 22, 23, 24, 25, 26, 27, 28, 29, 30, 31, 32, 33, 34, 35, 36, 37, 38, 39, 40, 41, 42, 43, 44, 45, 46, 47, 48, 49, 50, 51, 52, 53, 54, 55, 56, 57] (by decide +kernel) (by decide +kernel)
set_option maxRecDepth 20000 in
theorem gX0_setOf_X0_belongs : GoodIn wsX0_setOf (wsV RX0 109 RX0 yX0_belongs wsX0_belongs) := goodIn_app (goodIn_of _ (by decide +kernel)) ggX0_setOf_X0_belongs
theorem dX0_setOf_0 : decode cX0_setOf 0 = .ok (.lconst 0, 1) := by decide +kernel
theorem dX0_setOf_1 : decode cX0_setOf 1 = .ok (.lstore_n 2, 1) := by decide +kernel
theorem dX0_setOf_2 : decode cX0_setOf 2 = .ok (.iconst 0, 1) := by decide +kernel
theorem dX0_setOf_3 : decode cX0_setOf 3 = .ok (.istore 4, 2) := by decide +kernel
theorem dX0_setOf_5 : decode cX0_setOf 5 = .ok (.iload 4, 2) := by decide +kernel
theorem dX0_setOf_7 : decode cX0_setOf 7 = .ok (.aload_n 0, 1) := by decide +kernel
theorem dX0_setOf_8 : decode cX0_setOf 8 = .ok (.getfield 9, 3) := by decide +kernel
theorem dX0_setOf_11 : decode cX0_setOf 11 = .ok (.if_icmp .ge 33, 3) := by decide +kernel
theorem dX0_setOf_14 : decode cX0_setOf 14 = .ok (.iload 4, 2) := by decide +kernel
theorem dX0_setOf_16 : decode cX0_setOf 16 = .ok (.bipush 32, 2) := by decide +kernel
theorem dX0_setOf_18 : decode cX0_setOf 18 = .ok (.if_icmp .ge 26, 3) := by decide +kernel
theorem dX0_setOf_21 : decode cX0_setOf 21 = .ok (.aload_n 0, 1) := by decide +kernel
theorem dX0_setOf_22 : decode cX0_setOf 22 = .ok (.iload 4, 2) := by decide +kernel
theorem dX0_setOf_24 : decode cX0_setOf 24 = .ok (.iload_n 1, 1) := by decide +kernel
theorem dX0_setOf_25 : decode cX0_setOf 25 = .ok (.invokevirtual 109, 3) := by decide +kernel
theorem dX0_setOf_28 : decode cX0_setOf 28 = .ok (.ifCond .eq 10, 3) := by decide +kernel
theorem dX0_setOf_31 : decode cX0_setOf 31 = .ok (.lload_n 2, 1) := by decide +kernel
theorem dX0_setOf_32 : decode cX0_setOf 32 = .ok (.lconst 1, 1) := by decide +kernel
theorem dX0_setOf_33 : decode cX0_setOf 33 = .ok (.iload 4, 2) := by decide +kernel
theorem dX0_setOf_35 : decode cX0_setOf 35 = .ok (.lshl, 1) := by decide +kernel
theorem dX0_setOf_36 : decode cX0_setOf 36 = .ok (.lor, 1) := by decide +kernel
theorem dX0_setOf_37 : decode cX0_setOf 37 = .ok (.lstore_n 2, 1) := by decide +kernel
theorem dX0_setOf_38 : decode cX0_setOf 38 = .ok (.iinc 4 1, 3) := by decide +kernel
theorem dX0_setOf_41 : decode cX0_setOf 41 = .ok (.goto (-36), 3) := by decide +kernel
theorem dX0_setOf_44 : decode cX0_setOf 44 = .ok (.lload_n 2, 1) := by decide +kernel
theorem dX0_setOf_45 : decode cX0_setOf 45 = .ok (.lreturn, 1) := by decide +kernel
set_option maxRecDepth 20000 in
theorem ggX0_belongs_X0_isWritten : GoodIn wsX0_belongs wsX0_isWritten := goodIn_r _ [7, 8, 9, 10, 6, 11, 12, 13, 14, 15, 16, 17, 40, 41, 42, 43, 44, 45, 46, 47, 48] (by decide +kernel) (by decide +kernel)
set_option maxRecDepth 20000 in
theorem gX0_belongs_X0_isWritten : GoodIn wsX0_belongs (wsV RX0 92 RX0 yX0_isWritten wsX0_isWritten) := goodIn_app (goodIn_of _ (by decide +kernel)) ggX0_belongs_X0_isWritten
set_option maxRecDepth 20000 in
theorem ggX0_belongs_X0_isBelieved : GoodIn wsX0_belongs wsX0_isBelieved := goodIn_r _ [21, 8, 9, 10, 6, 11, 12, 13, 14, 15, 16, 17, 22, 23, 24, 25, 26, 27, 28, 29, 30, 31, 32, 33, 34, 35, 36, 40, 41, 42, 43, 44, 45, 46, 47, 48, 49, 50, 51, 52, 53] (by decide +kernel) (by decide +kernel)
set_option maxRecDepth 20000 in
theorem gX0_belongs_X0_isBelieved : GoodIn wsX0_belongs (wsV RX0 95 RX0 yX0_isBelieved wsX0_isBelieved) := goodIn_app (goodIn_of _ (by decide +kernel)) ggX0_belongs_X0_isBelieved
set_option maxRecDepth 20000 in
theorem ggX0_belongs_X3_isOfOtherAddress : GoodIn wsX0_belongs wsX3_isOfOtherAddress := goodIn_r _ [39, 27, 30, 31, 32, 23, 33, 28, 49, 50, 51, 52, 53] (by decide +kernel) (by decide +kernel)
set_option maxRecDepth 20000 in
theorem gX0_belongs_X3_isOfOtherAddress_n113 : GoodIn wsX0_belongs (wsX3_isOfOtherAddress) := ggX0_belongs_X3_isOfOtherAddress
theorem dX0_belongs_0 : decode cX0_belongs 0 = .ok (.iload_n 2, 1) := by decide +kernel
theorem dX0_belongs_1 : decode cX0_belongs 1 = .ok (.tableswitch 158 0 5 #[39, 45, 55, 65, 103, 130], 39) := by decide +kernel
theorem dX0_belongs_40 : decode cX0_belongs 40 = .ok (.aload_n 0, 1) := by decide +kernel
theorem dX0_belongs_41 : decode cX0_belongs 41 = .ok (.iload_n 1, 1) := by decide +kernel
theorem dX0_belongs_42 : decode cX0_belongs 42 = .ok (.invokevirtual 92, 3) := by decide +kernel
theorem dX0_belongs_45 : decode cX0_belongs 45 = .ok (.ireturn, 1) := by decide +kernel
theorem dX0_belongs_46 : decode cX0_belongs 46 = .ok (.aload_n 0, 1) := by decide +kernel
theorem dX0_belongs_47 : decode cX0_belongs 47 = .ok (.aload_n 0, 1) := by decide +kernel
theorem dX0_belongs_48 : decode cX0_belongs 48 = .ok (.getfield 22, 3) := by decide +kernel
theorem dX0_belongs_51 : decode cX0_belongs 51 = .ok (.iload_n 1, 1) := by decide +kernel
theorem dX0_belongs_52 : decode cX0_belongs 52 = .ok (.invokevirtual 95, 3) := by decide +kernel
theorem dX0_belongs_55 : decode cX0_belongs 55 = .ok (.ireturn, 1) := by decide +kernel
theorem dX0_belongs_56 : decode cX0_belongs 56 = .ok (.aload_n 0, 1) := by decide +kernel
theorem dX0_belongs_57 : decode cX0_belongs 57 = .ok (.aload_n 0, 1) := by decide +kernel
theorem dX0_belongs_58 : decode cX0_belongs 58 = .ok (.getfield 26, 3) := by decide +kernel
theorem dX0_belongs_61 : decode cX0_belongs 61 = .ok (.iload_n 1, 1) := by decide +kernel
theorem dX0_belongs_62 : decode cX0_belongs 62 = .ok (.invokevirtual 95, 3) := by decide +kernel
theorem dX0_belongs_65 : decode cX0_belongs 65 = .ok (.ireturn, 1) := by decide +kernel
theorem dX0_belongs_66 : decode cX0_belongs 66 = .ok (.aload_n 0, 1) := by decide +kernel
theorem dX0_belongs_67 : decode cX0_belongs 67 = .ok (.iload_n 1, 1) := by decide +kernel
theorem dX0_belongs_68 : decode cX0_belongs 68 = .ok (.invokevirtual 92, 3) := by decide +kernel
theorem dX0_belongs_71 : decode cX0_belongs 71 = .ok (.ifCond .eq 31, 3) := by decide +kernel
theorem dX0_belongs_74 : decode cX0_belongs 74 = .ok (.aload_n 0, 1) := by decide +kernel
theorem dX0_belongs_75 : decode cX0_belongs 75 = .ok (.aload_n 0, 1) := by decide +kernel
theorem dX0_belongs_76 : decode cX0_belongs 76 = .ok (.getfield 22, 3) := by decide +kernel
theorem dX0_belongs_79 : decode cX0_belongs 79 = .ok (.iload_n 1, 1) := by decide +kernel
theorem dX0_belongs_80 : decode cX0_belongs 80 = .ok (.invokevirtual 95, 3) := by decide +kernel
theorem dX0_belongs_83 : decode cX0_belongs 83 = .ok (.ifCond .ne 19, 3) := by decide +kernel
theorem dX0_belongs_86 : decode cX0_belongs 86 = .ok (.aload_n 0, 1) := by decide +kernel
theorem dX0_belongs_87 : decode cX0_belongs 87 = .ok (.aload_n 0, 1) := by decide +kernel
theorem dX0_belongs_88 : decode cX0_belongs 88 = .ok (.getfield 26, 3) := by decide +kernel
theorem dX0_belongs_91 : decode cX0_belongs 91 = .ok (.iload_n 1, 1) := by decide +kernel
theorem dX0_belongs_92 : decode cX0_belongs 92 = .ok (.invokevirtual 95, 3) := by decide +kernel
theorem dX0_belongs_95 : decode cX0_belongs 95 = .ok (.ifCond .ne 7, 3) := by decide +kernel
theorem dX0_belongs_98 : decode cX0_belongs 98 = .ok (.iconst 1, 1) := by decide +kernel
theorem dX0_belongs_99 : decode cX0_belongs 99 = .ok (.goto 4, 3) := by decide +kernel
theorem dX0_belongs_102 : decode cX0_belongs 102 = .ok (.iconst 0, 1) := by decide +kernel
theorem dX0_belongs_103 : decode cX0_belongs 103 = .ok (.ireturn, 1) := by decide +kernel
theorem dX0_belongs_104 : decode cX0_belongs 104 = .ok (.aload_n 0, 1) := by decide +kernel
theorem dX0_belongs_105 : decode cX0_belongs 105 = .ok (.aload_n 0, 1) := by decide +kernel
theorem dX0_belongs_106 : decode cX0_belongs 106 = .ok (.getfield 22, 3) := by decide +kernel
theorem dX0_belongs_109 : decode cX0_belongs 109 = .ok (.iload_n 1, 1) := by decide +kernel
theorem dX0_belongs_110 : decode cX0_belongs 110 = .ok (.invokevirtual 95, 3) := by decide +kernel
theorem dX0_belongs_113 : decode cX0_belongs 113 = .ok (.aload_n 0, 1) := by decide +kernel
theorem dX0_belongs_114 : decode cX0_belongs 114 = .ok (.aload_n 0, 1) := by decide +kernel
theorem dX0_belongs_115 : decode cX0_belongs 115 = .ok (.getfield 26, 3) := by decide +kernel
theorem dX0_belongs_118 : decode cX0_belongs 118 = .ok (.iload_n 1, 1) := by decide +kernel
theorem dX0_belongs_119 : decode cX0_belongs 119 = .ok (.invokevirtual 95, 3) := by decide +kernel
theorem dX0_belongs_122 : decode cX0_belongs 122 = .ok (.if_icmp .eq 7, 3) := by decide +kernel
theorem dX0_belongs_125 : decode cX0_belongs 125 = .ok (.iconst 1, 1) := by decide +kernel
theorem dX0_belongs_126 : decode cX0_belongs 126 = .ok (.goto 4, 3) := by decide +kernel
theorem dX0_belongs_129 : decode cX0_belongs 129 = .ok (.iconst 0, 1) := by decide +kernel
theorem dX0_belongs_130 : decode cX0_belongs 130 = .ok (.ireturn, 1) := by decide +kernel
theorem dX0_belongs_131 : decode cX0_belongs 131 = .ok (.aload_n 0, 1) := by decide +kernel
theorem dX0_belongs_132 : decode cX0_belongs 132 = .ok (.getfield 22, 3) := by decide +kernel
theorem dX0_belongs_135 : decode cX0_belongs 135 = .ok (.iload_n 1, 1) := by decide +kernel
theorem dX0_belongs_136 : decode cX0_belongs 136 = .ok (.invokevirtual 113, 3) := by decide +kernel
theorem dX0_belongs_139 : decode cX0_belongs 139 = .ok (.ifCond .ne 14, 3) := by decide +kernel
theorem dX0_belongs_142 : decode cX0_belongs 142 = .ok (.aload_n 0, 1) := by decide +kernel
theorem dX0_belongs_143 : decode cX0_belongs 143 = .ok (.getfield 26, 3) := by decide +kernel
theorem dX0_belongs_146 : decode cX0_belongs 146 = .ok (.iload_n 1, 1) := by decide +kernel
theorem dX0_belongs_147 : decode cX0_belongs 147 = .ok (.invokevirtual 113, 3) := by decide +kernel
theorem dX0_belongs_150 : decode cX0_belongs 150 = .ok (.ifCond .eq 7, 3) := by decide +kernel
theorem dX0_belongs_153 : decode cX0_belongs 153 = .ok (.iconst 1, 1) := by decide +kernel
theorem dX0_belongs_154 : decode cX0_belongs 154 = .ok (.goto 4, 3) := by decide +kernel
theorem dX0_belongs_157 : decode cX0_belongs 157 = .ok (.iconst 0, 1) := by decide +kernel
theorem dX0_belongs_158 : decode cX0_belongs 158 = .ok (.ireturn, 1) := by decide +kernel
theorem dX0_belongs_159 : decode cX0_belongs 159 = .ok (.iconst 0, 1) := by decide +kernel
theorem dX0_belongs_160 : decode cX0_belongs 160 = .ok (.ireturn, 1) := by decide +kernel
set_option maxRecDepth 20000 in
theorem ggX0_writtenPlaces_X0_setOf : GoodIn wsX0_writtenPlaces wsX0_setOf := goodIn_r _ [5, 6, 7, 8, 9, 4, 10, 11, 12, 13, 14, 15, 16, 17, 18, 19, 20, 21, 22, 23, 24, 25, 26, 27, 28, 29, 30, 31, 32, 33, 34, 35, 36, 37, 38, 39, 40, 41, 42, 43, 44, 45, 46, 47, 55, 56, 57, 58, 59, 60, 61, 62, 63, 64, 65, 66, 67, 68] (by decide +kernel) (by decide +kernel)
set_option maxRecDepth 20000 in
theorem gX0_writtenPlaces_X0_setOf : GoodIn wsX0_writtenPlaces (wsV RX0 116 RX0 yX0_setOf wsX0_setOf) := goodIn_app (goodIn_of _ (by decide +kernel)) ggX0_writtenPlaces_X0_setOf
set_option maxRecDepth 20000 in
theorem ggX0_writtenPlaces_J13_bitCount_95d88 : GoodIn wsX0_writtenPlaces wsJ13_bitCount_95d88 := goodIn_r _ [51, 52, 53, 54] (by decide +kernel) (by decide +kernel)
set_option maxRecDepth 20000 in
theorem gX0_writtenPlaces_J13_bitCount_95d88 : GoodIn wsX0_writtenPlaces (va_wsS RX0 120 yJ13_bitCount_95d88 wsJ13_bitCount_95d88) := goodIn_app (goodIn_of _ (by decide +kernel)) ggX0_writtenPlaces_J13_bitCount_95d88
theorem dX0_writtenPlaces_0 : decode cX0_writtenPlaces 0 = .ok (.aload_n 0, 1) := by decide +kernel
theorem dX0_writtenPlaces_1 : decode cX0_writtenPlaces 1 = .ok (.iconst 0, 1) := by decide +kernel
theorem dX0_writtenPlaces_2 : decode cX0_writtenPlaces 2 = .ok (.invokevirtual 116, 3) := by decide +kernel
theorem dX0_writtenPlaces_5 : decode cX0_writtenPlaces 5 = .ok (.invokestatic 120, 3) := by decide +kernel
theorem dX0_writtenPlaces_8 : decode cX0_writtenPlaces 8 = .ok (.ireturn, 1) := by decide +kernel
set_option maxRecDepth 20000 in
theorem ggX1_init_X0_init : GoodIn wsX1_init wsX0_init := goodIn_r _ [9, 10, 2, 3, 11, 12, 13, 14, 15, 16, 17, 18, 19, 20, 21, 22, 23, 24, 25, 26, 30, 31, 32, 33, 34, 35, 36, 37, 38, 39, 40, 41, 42, 43] (by decide +kernel) (by decide +kernel)
set_option maxRecDepth 20000 in
theorem gX1_init_X0_init_n17 : GoodIn wsX1_init (wsX0_init) := ggX1_init_X0_init
theorem dX1_init_0 : decode cX1_init 0 = .ok (.aload_n 0, 1) := by decide +kernel
theorem dX1_init_1 : decode cX1_init 1 = .ok (.invokespecial 3, 3) := by decide +kernel
theorem dX1_init_4 : decode cX1_init 4 = .ok (.aload_n 0, 1) := by decide +kernel
theorem dX1_init_5 : decode cX1_init 5 = .ok (.bipush 7, 2) := by decide +kernel
theorem dX1_init_7 : decode cX1_init 7 = .ok (.anewarray 9, 3) := by decide +kernel
theorem dX1_init_10 : decode cX1_init 10 = .ok (.putfield 11, 3) := by decide +kernel
theorem dX1_init_13 : decode cX1_init 13 = .ok (.iconst 0, 1) := by decide +kernel
theorem dX1_init_14 : decode cX1_init 14 = .ok (.istore_n 1, 1) := by decide +kernel
theorem dX1_init_15 : decode cX1_init 15 = .ok (.iload_n 1, 1) := by decide +kernel
theorem dX1_init_16 : decode cX1_init 16 = .ok (.aload_n 0, 1) := by decide +kernel
theorem dX1_init_17 : decode cX1_init 17 = .ok (.getfield 11, 3) := by decide +kernel
theorem dX1_init_20 : decode cX1_init 20 = .ok (.arraylength, 1) := by decide +kernel
theorem dX1_init_21 : decode cX1_init 21 = .ok (.if_icmp .ge 22, 3) := by decide +kernel
theorem dX1_init_24 : decode cX1_init 24 = .ok (.aload_n 0, 1) := by decide +kernel
theorem dX1_init_25 : decode cX1_init 25 = .ok (.getfield 11, 3) := by decide +kernel
theorem dX1_init_28 : decode cX1_init 28 = .ok (.iload_n 1, 1) := by decide +kernel
theorem dX1_init_29 : decode cX1_init 29 = .ok (.new 9, 3) := by decide +kernel
theorem dX1_init_32 : decode cX1_init 32 = .ok (.dup, 1) := by decide +kernel
theorem dX1_init_33 : decode cX1_init 33 = .ok (.invokespecial 17, 3) := by decide +kernel
theorem dX1_init_36 : decode cX1_init 36 = .ok (.aastore, 1) := by decide +kernel
theorem dX1_init_37 : decode cX1_init 37 = .ok (.iinc 1 1, 3) := by decide +kernel
theorem dX1_init_40 : decode cX1_init 40 = .ok (.goto (-25), 3) := by decide +kernel
theorem dX1_init_43 : decode cX1_init 43 = .ok (.return_, 1) := by decide +kernel
set_option maxRecDepth 20000 in
theorem ggX1_prepare_X1_spareRow : GoodIn wsX1_prepare wsX1_spareRow := goodIn_r _ [5, 6, 7, 35, 36, 37] (by decide +kernel) (by decide +kernel)
set_option maxRecDepth 20000 in
theorem gX1_prepare_X1_spareRow : GoodIn wsX1_prepare (wsV RX1 18 RX1 yX1_spareRow wsX1_spareRow) := goodIn_app (goodIn_of _ (by decide +kernel)) ggX1_prepare_X1_spareRow
set_option maxRecDepth 20000 in
theorem ggX1_prepare_X0_copyFrom : GoodIn wsX1_prepare wsX0_copyFrom := goodIn_r _ [11, 12, 13, 14, 15, 16, 17, 18, 19, 20, 21, 22, 23, 24, 25, 26, 27, 28, 29, 30, 31, 32, 33, 34, 38, 39, 40, 41, 42, 43, 44, 45, 46, 47, 48, 49, 50, 51] (by decide +kernel) (by decide +kernel)
set_option maxRecDepth 20000 in
theorem gX1_prepare_X0_copyFrom_n22 : GoodIn wsX1_prepare (wsX0_copyFrom) := ggX1_prepare_X0_copyFrom
theorem dX1_prepare_0 : decode cX1_prepare 0 = .ok (.aload_n 0, 1) := by decide +kernel
theorem dX1_prepare_1 : decode cX1_prepare 1 = .ok (.invokevirtual 18, 3) := by decide +kernel
theorem dX1_prepare_4 : decode cX1_prepare 4 = .ok (.astore_n 2, 1) := by decide +kernel
theorem dX1_prepare_5 : decode cX1_prepare 5 = .ok (.aload_n 2, 1) := by decide +kernel
theorem dX1_prepare_6 : decode cX1_prepare 6 = .ok (.ifnull 8, 3) := by decide +kernel
theorem dX1_prepare_9 : decode cX1_prepare 9 = .ok (.aload_n 2, 1) := by decide +kernel
theorem dX1_prepare_10 : decode cX1_prepare 10 = .ok (.aload_n 1, 1) := by decide +kernel
theorem dX1_prepare_11 : decode cX1_prepare 11 = .ok (.invokevirtual 22, 3) := by decide +kernel
theorem dX1_prepare_14 : decode cX1_prepare 14 = .ok (.return_, 1) := by decide +kernel
set_option maxRecDepth 20000 in
theorem ggX1_keep_X4_isError : GoodIn wsX1_keep wsX4_isError := goodIn_r _ [5] (by decide +kernel) (by decide +kernel)
set_option maxRecDepth 20000 in
theorem gX1_keep_X4_isError_n26 : GoodIn wsX1_keep (wsX4_isError) := ggX1_keep_X4_isError
theorem dX1_keep_0 : decode cX1_keep 0 = .ok (.iload_n 1, 1) := by decide +kernel
theorem dX1_keep_1 : decode cX1_keep 1 = .ok (.invokestatic 26, 3) := by decide +kernel
