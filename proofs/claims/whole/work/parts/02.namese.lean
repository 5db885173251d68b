theorem dX4_count_130 : decode cX4_count 130 = .ok (.getfield 130, 3) := by decide +kernel
theorem dX4_count_133 : decode cX4_count 133 = .ok (.ireturn, 1) := by decide +kernel
theorem dX4_count_134 : decode cX4_count 134 = .ok (.aload_n 0, 1) := by decide +kernel
theorem dX4_count_135 : decode cX4_count 135 = .ok (.getfield 28, 3) := by decide +kernel
theorem dX4_count_138 : decode cX4_count 138 = .ok (.getfield 133, 3) := by decide +kernel
theorem dX4_count_141 : decode cX4_count 141 = .ok (.ireturn, 1) := by decide +kernel
theorem dX4_count_142 : decode cX4_count 142 = .ok (.bipush (-2), 2) := by decide +kernel
theorem dX4_count_144 : decode cX4_count 144 = .ok (.ireturn, 1) := by decide +kernel
set_option maxRecDepth 20000 in
theorem ggX4_share_X0_writtenPlaces : GoodIn wsX4_share wsX0_writtenPlaces := goodIn_r _ [5, 6, 7, 8, 3, 9, 10, 11, 12, 13, 14, 15, 16, 17, 18, 19, 20, 21, 22, 23, 24, 25, 26, 27, 28, 29, 30, 31, 32, 33, 34, 35, 36, 37, 38, 39, 40, 41, 42, 43, 44, 45, 46, 47, 48, 49, 50, 51, 52, 53, 54, 55, 56, 57, 58, 73, 74, 75, 76, 77, 78, 79, 80, 81, 82, 83, 84, 85, 86] (by decide +kernel) (by decide +kernel)
set_option maxRecDepth 20000 in
theorem gX4_share_X0_writtenPlaces_n136 : GoodIn wsX4_share (wsX0_writtenPlaces) := ggX4_share_X0_writtenPlaces
set_option maxRecDepth 20000 in
theorem ggX4_share_X0_setOf : GoodIn wsX4_share wsX0_setOf := goodIn_r _ [9, 10, 11, 12, 13, 3, 14, 15, 16, 17, 18, 19, 20, 21, 22, 23, 24, 25, 26, 27, 28, 29, 30, 31, 32, 33, 34, 35, 36, 37, 38, 39, 40, 41, 42, 43, 44, 45, 46, 47, 48, 49, 50, 51, 73, 74, 75, 76, 77, 78, 79, 80, 81, 82, 83, 84, 85, 86] (by decide +kernel) (by decide +kernel)
set_option maxRecDepth 20000 in
theorem gX4_share_X0_setOf_n97 : GoodIn wsX4_share (wsX0_setOf) := ggX4_share_X0_setOf
set_option maxRecDepth 20000 in
theorem ggX4_share_J13_bitCount_95d88 : GoodIn wsX4_share wsJ13_bitCount_95d88 := goodIn_r _ [55, 56, 57, 58] (by decide +kernel) (by decide +kernel)
set_option maxRecDepth 20000 in
theorem gX4_share_J13_bitCount_95d88 : GoodIn wsX4_share (va_wsS RX4 139 yJ13_bitCount_95d88 wsJ13_bitCount_95d88) := goodIn_app (goodIn_of _ (by decide +kernel)) ggX4_share_J13_bitCount_95d88
set_option maxRecDepth 20000 in
theorem ggX4_share_X4_floatBitsOf : GoodIn wsX4_share wsX4_floatBitsOf := goodIn_r _ [63, 64] (by decide +kernel) (by decide +kernel)
set_option maxRecDepth 20000 in
theorem gX4_share_X4_floatBitsOf : GoodIn wsX4_share (va_wsS RX4 145 yX4_floatBitsOf wsX4_floatBitsOf) := goodIn_app (goodIn_of _ (by decide +kernel)) ggX4_share_X4_floatBitsOf
theorem dX4_share_0 : decode cX4_share 0 = .ok (.aload_n 0, 1) := by decide +kernel
theorem dX4_share_1 : decode cX4_share 1 = .ok (.getfield 10, 3) := by decide +kernel
theorem dX4_share_4 : decode cX4_share 4 = .ok (.invokevirtual 136, 3) := by decide +kernel
theorem dX4_share_7 : decode cX4_share 7 = .ok (.istore_n 1, 1) := by decide +kernel
theorem dX4_share_8 : decode cX4_share 8 = .ok (.aload_n 0, 1) := by decide +kernel
theorem dX4_share_9 : decode cX4_share 9 = .ok (.getfield 10, 3) := by decide +kernel
theorem dX4_share_12 : decode cX4_share 12 = .ok (.iconst 3, 1) := by decide +kernel
theorem dX4_share_13 : decode cX4_share 13 = .ok (.invokevirtual 97, 3) := by decide +kernel
theorem dX4_share_16 : decode cX4_share 16 = .ok (.invokestatic 139, 3) := by decide +kernel
theorem dX4_share_19 : decode cX4_share 19 = .ok (.istore_n 2, 1) := by decide +kernel
theorem dX4_share_20 : decode cX4_share 20 = .ok (.iload_n 1, 1) := by decide +kernel
theorem dX4_share_21 : decode cX4_share 21 = .ok (.ifCond .ne 8, 3) := by decide +kernel
theorem dX4_share_24 : decode cX4_share 24 = .ok (.bipush (-6), 2) := by decide +kernel
theorem dX4_share_26 : decode cX4_share 26 = .ok (.goto 10, 3) := by decide +kernel
theorem dX4_share_29 : decode cX4_share 29 = .ok (.iload_n 1, 1) := by decide +kernel
theorem dX4_share_30 : decode cX4_share 30 = .ok (.iload_n 2, 1) := by decide +kernel
theorem dX4_share_31 : decode cX4_share 31 = .ok (.isub, 1) := by decide +kernel
theorem dX4_share_32 : decode cX4_share 32 = .ok (.iload_n 1, 1) := by decide +kernel
theorem dX4_share_33 : decode cX4_share 33 = .ok (.invokestatic 145, 3) := by decide +kernel
theorem dX4_share_36 : decode cX4_share 36 = .ok (.ireturn, 1) := by decide +kernel
set_option maxRecDepth 20000 in
theorem ggX4_wouldRead_X0_copyFrom : GoodIn wsX4_wouldRead wsX0_copyFrom := goodIn_r _ [6, 7, 8, 9, 10, 11, 12, 13, 14, 15, 16, 17, 18, 19, 20, 21, 22, 23, 24, 25, 26, 27, 28, 29, 84, 85, 86, 87, 88, 89, 90, 91, 92, 93, 94, 95, 96, 97] (by decide +kernel) (by decide +kernel)
set_option maxRecDepth 20000 in
theorem gX4_wouldRead_X0_copyFrom_n148 : GoodIn wsX4_wouldRead (wsX0_copyFrom) := ggX4_wouldRead_X0_copyFrom
set_option maxRecDepth 20000 in
theorem ggX4_wouldRead_X0_store : GoodIn wsX4_wouldRead wsX0_store := goodIn_r _ [32, 8, 7, 13, 14, 15, 33, 34, 35, 4, 36, 37, 21, 38, 39, 29, 40, 41, 42, 43, 44, 45, 46, 24, 26, 27, 28, 84, 85, 86, 87, 88, 89, 90, 91, 92, 93, 94, 95, 96, 97] (by decide +kernel) (by decide +kernel)
set_option maxRecDepth 20000 in
theorem gX4_wouldRead_X0_store_n50 : GoodIn wsX4_wouldRead (wsX0_store) := ggX4_wouldRead_X0_store
set_option maxRecDepth 20000 in
theorem ggX4_wouldRead_X4_isError : GoodIn wsX4_wouldRead wsX4_isError := goodIn_r _ [50] (by decide +kernel) (by decide +kernel)
set_option maxRecDepth 20000 in
theorem gX4_wouldRead_X4_isError : GoodIn wsX4_wouldRead (va_wsS RX4 151 yX4_isError wsX4_isError) := goodIn_app (goodIn_of _ (by decide +kernel)) ggX4_wouldRead_X4_isError
set_option maxRecDepth 20000 in
theorem ggX4_wouldRead_X0_fetch : GoodIn wsX4_wouldRead wsX0_fetch := goodIn_r _ [53, 16, 13, 17, 14, 18, 33, 34, 35, 4, 36, 7, 54, 55, 56, 57, 58, 59, 60, 61, 8, 62, 63, 64, 65, 66, 21, 67, 68, 28, 24, 26, 27, 69, 70, 71, 72, 40, 41, 42, 73, 74, 75, 84, 85, 86, 87, 88, 89, 90, 91, 92, 93, 94, 95, 96, 97] (by decide +kernel) (by decide +kernel)
set_option maxRecDepth 20000 in
theorem gX4_wouldRead_X0_fetch_n60 : GoodIn wsX4_wouldRead (wsX0_fetch) := ggX4_wouldRead_X0_fetch
theorem dX4_wouldRead_0 : decode cX4_wouldRead 0 = .ok (.aload_n 0, 1) := by decide +kernel
theorem dX4_wouldRead_1 : decode cX4_wouldRead 1 = .ok (.getfield 16, 3) := by decide +kernel
theorem dX4_wouldRead_4 : decode cX4_wouldRead 4 = .ok (.aload_n 0, 1) := by decide +kernel
theorem dX4_wouldRead_5 : decode cX4_wouldRead 5 = .ok (.getfield 10, 3) := by decide +kernel
theorem dX4_wouldRead_8 : decode cX4_wouldRead 8 = .ok (.invokevirtual 148, 3) := by decide +kernel
theorem dX4_wouldRead_11 : decode cX4_wouldRead 11 = .ok (.aload_n 0, 1) := by decide +kernel
theorem dX4_wouldRead_12 : decode cX4_wouldRead 12 = .ok (.getfield 16, 3) := by decide +kernel
theorem dX4_wouldRead_15 : decode cX4_wouldRead 15 = .ok (.iload_n 2, 1) := by decide +kernel
theorem dX4_wouldRead_16 : decode cX4_wouldRead 16 = .ok (.iload_n 3, 1) := by decide +kernel
theorem dX4_wouldRead_17 : decode cX4_wouldRead 17 = .ok (.invokevirtual 50, 3) := by decide +kernel
theorem dX4_wouldRead_20 : decode cX4_wouldRead 20 = .ok (.istore 4, 2) := by decide +kernel
theorem dX4_wouldRead_22 : decode cX4_wouldRead 22 = .ok (.iload 4, 2) := by decide +kernel
theorem dX4_wouldRead_24 : decode cX4_wouldRead 24 = .ok (.invokestatic 151, 3) := by decide +kernel
theorem dX4_wouldRead_27 : decode cX4_wouldRead 27 = .ok (.ifCond .eq 8, 3) := by decide +kernel
theorem dX4_wouldRead_30 : decode cX4_wouldRead 30 = .ok (.iload 4, 2) := by decide +kernel
theorem dX4_wouldRead_32 : decode cX4_wouldRead 32 = .ok (.goto 11, 3) := by decide +kernel
theorem dX4_wouldRead_35 : decode cX4_wouldRead 35 = .ok (.aload_n 0, 1) := by decide +kernel
theorem dX4_wouldRead_36 : decode cX4_wouldRead 36 = .ok (.getfield 16, 3) := by decide +kernel
theorem dX4_wouldRead_39 : decode cX4_wouldRead 39 = .ok (.iload_n 1, 1) := by decide +kernel
theorem dX4_wouldRead_40 : decode cX4_wouldRead 40 = .ok (.invokevirtual 60, 3) := by decide +kernel
theorem dX4_wouldRead_43 : decode cX4_wouldRead 43 = .ok (.ireturn, 1) := by decide +kernel
set_option maxRecDepth 20000 in
theorem ggX4_losing_X0_setOf : GoodIn wsX4_losing wsX0_setOf := goodIn_r _ [7, 8, 9, 10, 11, 5, 12, 13, 14, 15, 16, 17, 18, 19, 20, 21, 22, 23, 24, 25, 26, 27, 28, 29, 30, 31, 32, 33, 34, 35, 36, 37, 38, 39, 40, 41, 42, 43, 44, 45, 46, 47, 48, 49, 98, 99, 100, 101, 102, 103, 104, 105, 106, 107, 108, 109, 110, 111] (by decide +kernel) (by decide +kernel)
set_option maxRecDepth 20000 in
theorem gX4_losing_X0_setOf_n97 : GoodIn wsX4_losing (wsX0_setOf) := ggX4_losing_X0_setOf
set_option maxRecDepth 20000 in
theorem ggX4_losing_X0_copyFrom : GoodIn wsX4_losing wsX0_copyFrom := goodIn_r _ [52, 8, 23, 53, 54, 55, 56, 13, 14, 57, 58, 59, 60, 61, 62, 33, 63, 64, 37, 65, 38, 39, 36, 66, 98, 99, 100, 101, 102, 103, 104, 105, 106, 107, 108, 109, 110, 111] (by decide +kernel) (by decide +kernel)
set_option maxRecDepth 20000 in
theorem gX4_losing_X0_copyFrom_n148 : GoodIn wsX4_losing (wsX0_copyFrom) := ggX4_losing_X0_copyFrom
set_option maxRecDepth 20000 in
theorem ggX4_losing_X0_expect : GoodIn wsX4_losing wsX0_expect := goodIn_r _ [69, 70, 71, 72, 73, 74, 75, 5, 76, 13, 14, 107, 108, 109, 110, 111, 98, 99, 100, 101, 102, 103, 104, 105, 106] (by decide +kernel) (by decide +kernel)
set_option maxRecDepth 20000 in
theorem gX4_losing_X0_expect_n54 : GoodIn wsX4_losing (wsX0_expect) := ggX4_losing_X0_expect
set_option maxRecDepth 20000 in
theorem ggX4_losing_X0_store : GoodIn wsX4_losing wsX0_store := goodIn_r _ [79, 23, 8, 13, 14, 57, 24, 25, 26, 5, 27, 80, 33, 81, 82, 66, 44, 45, 46, 83, 84, 85, 86, 37, 38, 39, 36, 98, 99, 100, 101, 102, 103, 104, 105, 106, 107, 108, 109, 110, 111] (by decide +kernel) (by decide +kernel)
set_option maxRecDepth 20000 in
theorem gX4_losing_X0_store_n50 : GoodIn wsX4_losing (wsX0_store) := ggX4_losing_X0_store
set_option maxRecDepth 20000 in
theorem ggX4_losing_X4_isError : GoodIn wsX4_losing wsX4_isError := goodIn_r _ [89] (by decide +kernel) (by decide +kernel)
set_option maxRecDepth 20000 in
theorem gX4_losing_X4_isError : GoodIn wsX4_losing (va_wsS RX4 151 yX4_isError wsX4_isError) := goodIn_app (goodIn_of _ (by decide +kernel)) ggX4_losing_X4_isError
theorem dX4_losing_0 : decode cX4_losing 0 = .ok (.aload_n 0, 1) := by decide +kernel
theorem dX4_losing_1 : decode cX4_losing 1 = .ok (.getfield 10, 3) := by decide +kernel
theorem dX4_losing_4 : decode cX4_losing 4 = .ok (.iconst 3, 1) := by decide +kernel
theorem dX4_losing_5 : decode cX4_losing 5 = .ok (.invokevirtual 97, 3) := by decide +kernel
theorem dX4_losing_8 : decode cX4_losing 8 = .ok (.lstore_n 3, 1) := by decide +kernel
theorem dX4_losing_9 : decode cX4_losing 9 = .ok (.iconst 0, 1) := by decide +kernel
theorem dX4_losing_10 : decode cX4_losing 10 = .ok (.istore 5, 2) := by decide +kernel
theorem dX4_losing_12 : decode cX4_losing 12 = .ok (.iconst 1, 1) := by decide +kernel
theorem dX4_losing_13 : decode cX4_losing 13 = .ok (.istore 6, 2) := by decide +kernel
theorem dX4_losing_15 : decode cX4_losing 15 = .ok (.iload 6, 2) := by decide +kernel
theorem dX4_losing_17 : decode cX4_losing 17 = .ok (.iconst 4, 1) := by decide +kernel
theorem dX4_losing_18 : decode cX4_losing 18 = .ok (.if_icmp .gt 92, 3) := by decide +kernel
theorem dX4_losing_21 : decode cX4_losing 21 = .ok (.aload_n 0, 1) := by decide +kernel
theorem dX4_losing_22 : decode cX4_losing 22 = .ok (.getfield 16, 3) := by decide +kernel
theorem dX4_losing_25 : decode cX4_losing 25 = .ok (.aload_n 0, 1) := by decide +kernel
theorem dX4_losing_26 : decode cX4_losing 26 = .ok (.getfield 10, 3) := by decide +kernel
theorem dX4_losing_29 : decode cX4_losing 29 = .ok (.invokevirtual 148, 3) := by decide +kernel
theorem dX4_losing_32 : decode cX4_losing 32 = .ok (.aload_n 0, 1) := by decide +kernel
theorem dX4_losing_33 : decode cX4_losing 33 = .ok (.getfield 16, 3) := by decide +kernel
theorem dX4_losing_36 : decode cX4_losing 36 = .ok (.iconst 0, 1) := by decide +kernel
theorem dX4_losing_37 : decode cX4_losing 37 = .ok (.iload 6, 2) := by decide +kernel
theorem dX4_losing_39 : decode cX4_losing 39 = .ok (.invokevirtual 54, 3) := by decide +kernel
theorem dX4_losing_42 : decode cX4_losing 42 = .ok (.pop, 1) := by decide +kernel
theorem dX4_losing_43 : decode cX4_losing 43 = .ok (.aload_n 0, 1) := by decide +kernel
theorem dX4_losing_44 : decode cX4_losing 44 = .ok (.getfield 16, 3) := by decide +kernel
theorem dX4_losing_47 : decode cX4_losing 47 = .ok (.iconst 1, 1) := by decide +kernel
theorem dX4_losing_48 : decode cX4_losing 48 = .ok (.iload 6, 2) := by decide +kernel
theorem dX4_losing_50 : decode cX4_losing 50 = .ok (.invokevirtual 54, 3) := by decide +kernel
theorem dX4_losing_53 : decode cX4_losing 53 = .ok (.pop, 1) := by decide +kernel
theorem dX4_losing_54 : decode cX4_losing 54 = .ok (.aload_n 0, 1) := by decide +kernel
theorem dX4_losing_55 : decode cX4_losing 55 = .ok (.getfield 16, 3) := by decide +kernel
theorem dX4_losing_58 : decode cX4_losing 58 = .ok (.iload_n 1, 1) := by decide +kernel
theorem dX4_losing_59 : decode cX4_losing 59 = .ok (.iload_n 2, 1) := by decide +kernel
theorem dX4_losing_60 : decode cX4_losing 60 = .ok (.invokevirtual 50, 3) := by decide +kernel
theorem dX4_losing_63 : decode cX4_losing 63 = .ok (.istore 7, 2) := by decide +kernel
theorem dX4_losing_65 : decode cX4_losing 65 = .ok (.iload 7, 2) := by decide +kernel
theorem dX4_losing_67 : decode cX4_losing 67 = .ok (.invokestatic 151, 3) := by decide +kernel
theorem dX4_losing_70 : decode cX4_losing 70 = .ok (.ifCond .eq 6, 3) := by decide +kernel
theorem dX4_losing_73 : decode cX4_losing 73 = .ok (.iload 7, 2) := by decide +kernel
theorem dX4_losing_75 : decode cX4_losing 75 = .ok (.ireturn, 1) := by decide +kernel
theorem dX4_losing_76 : decode cX4_losing 76 = .ok (.aload_n 0, 1) := by decide +kernel
theorem dX4_losing_77 : decode cX4_losing 77 = .ok (.getfield 16, 3) := by decide +kernel
theorem dX4_losing_80 : decode cX4_losing 80 = .ok (.iconst 3, 1) := by decide +kernel
theorem dX4_losing_81 : decode cX4_losing 81 = .ok (.invokevirtual 97, 3) := by decide +kernel
theorem dX4_losing_84 : decode cX4_losing 84 = .ok (.lload_n 3, 1) := by decide +kernel
theorem dX4_losing_85 : decode cX4_losing 85 = .ok (.ldc2_w 154, 3) := by decide +kernel
theorem dX4_losing_88 : decode cX4_losing 88 = .ok (.lxor, 1) := by decide +kernel
theorem dX4_losing_89 : decode cX4_losing 89 = .ok (.land, 1) := by decide +kernel
theorem dX4_losing_90 : decode cX4_losing 90 = .ok (.lconst 0, 1) := by decide +kernel
theorem dX4_losing_91 : decode cX4_losing 91 = .ok (.lcmp, 1) := by decide +kernel
theorem dX4_losing_92 : decode cX4_losing 92 = .ok (.ifCond .eq 12, 3) := by decide +kernel
theorem dX4_losing_95 : decode cX4_losing 95 = .ok (.iload 5, 2) := by decide +kernel
theorem dX4_losing_97 : decode cX4_losing 97 = .ok (.iconst 1, 1) := by decide +kernel
theorem dX4_losing_98 : decode cX4_losing 98 = .ok (.iload 6, 2) := by decide +kernel
theorem dX4_losing_100 : decode cX4_losing 100 = .ok (.ishl, 1) := by decide +kernel
theorem dX4_losing_101 : decode cX4_losing 101 = .ok (.ior, 1) := by decide +kernel
theorem dX4_losing_102 : decode cX4_losing 102 = .ok (.istore 5, 2) := by decide +kernel
theorem dX4_losing_104 : decode cX4_losing 104 = .ok (.iinc 6 1, 3) := by decide +kernel
theorem dX4_losing_107 : decode cX4_losing 107 = .ok (.goto (-92), 3) := by decide +kernel
theorem dX4_losing_110 : decode cX4_losing 110 = .ok (.iload 5, 2) := by decide +kernel
theorem dX4_losing_112 : decode cX4_losing 112 = .ok (.ireturn, 1) := by decide +kernel
set_option maxRecDepth 20000 in
theorem ggX4_put_X2_append : GoodIn wsX4_put wsX2_append := goodIn_r _ [5, 6, 7, 8, 9, 10, 3, 11, 12, 13, 22, 23, 24, 25, 26, 27, 28] (by decide +kernel) (by decide +kernel)
set_option maxRecDepth 20000 in
theorem gX4_put_X2_append_n156 : GoodIn wsX4_put (wsX2_append) := ggX4_put_X2_append
theorem dX4_put_0 : decode cX4_put 0 = .ok (.aload_n 0, 1) := by decide +kernel
theorem dX4_put_1 : decode cX4_put 1 = .ok (.getfield 35, 3) := by decide +kernel
theorem dX4_put_4 : decode cX4_put 4 = .ok (.lload_n 1, 1) := by decide +kernel
theorem dX4_put_5 : decode cX4_put 5 = .ok (.invokevirtual 156, 3) := by decide +kernel
theorem dX4_put_8 : decode cX4_put 8 = .ok (.ireturn, 1) := by decide +kernel
set_option maxRecDepth 20000 in
theorem ggX4_wipe_X2_empty : GoodIn wsX4_wipe wsX2_empty := goodIn_r _ [5, 6, 15, 16, 17, 18, 19, 20, 21] (by decide +kernel) (by decide +kernel)
set_option maxRecDepth 20000 in
theorem gX4_wipe_X2_empty_n159 : GoodIn wsX4_wipe (wsX2_empty) := ggX4_wipe_X2_empty
theorem dX4_wipe_0 : decode cX4_wipe 0 = .ok (.aload_n 0, 1) := by decide +kernel
theorem dX4_wipe_1 : decode cX4_wipe 1 = .ok (.getfield 35, 3) := by decide +kernel
theorem dX4_wipe_4 : decode cX4_wipe 4 = .ok (.invokevirtual 159, 3) := by decide +kernel
theorem dX4_wipe_7 : decode cX4_wipe 7 = .ok (.ireturn, 1) := by decide +kernel
set_option maxRecDepth 20000 in
theorem ggX4_fault_X2_scan : GoodIn wsX4_fault wsX2_scan := goodIn_r _ [5, 6, 7, 8, 9, 10, 11, 3, 12, 13, 14, 15, 16, 17, 18, 19, 20, 21, 22, 23, 24, 25, 26, 27, 28, 29, 30, 31, 32, 33, 34, 35, 36, 37, 38, 39, 48, 49, 50, 51, 52, 53, 54] (by decide +kernel) (by decide +kernel)
set_option maxRecDepth 20000 in
theorem gX4_fault_X2_scan_n161 : GoodIn wsX4_fault (wsX2_scan) := ggX4_fault_X2_scan
theorem dX4_fault_0 : decode cX4_fault 0 = .ok (.aload_n 0, 1) := by decide +kernel
theorem dX4_fault_1 : decode cX4_fault 1 = .ok (.getfield 35, 3) := by decide +kernel
theorem dX4_fault_4 : decode cX4_fault 4 = .ok (.invokevirtual 161, 3) := by decide +kernel
theorem dX4_fault_7 : decode cX4_fault 7 = .ok (.ireturn, 1) := by decide +kernel
set_option maxRecDepth 20000 in
theorem ggX4_carryOut_X2_scan : GoodIn wsX4_carryOut wsX2_scan := goodIn_r _ [7, 8, 9, 10, 11, 12, 13, 5, 14, 15, 16, 17, 18, 19, 20, 21, 22, 23, 24, 25, 26, 27, 28, 29, 30, 31, 32, 33, 34, 35, 36, 37, 38, 39, 40, 41, 169, 170, 171, 172, 173, 174, 175] (by decide +kernel) (by decide +kernel)
set_option maxRecDepth 20000 in
theorem gX4_carryOut_X2_scan_n161 : GoodIn wsX4_carryOut (wsX2_scan) := ggX4_carryOut_X2_scan
set_option maxRecDepth 20000 in
theorem ggX4_carryOut_X1_prepare : GoodIn wsX4_carryOut wsX1_prepare := goodIn_r _ [45, 46, 47, 48, 43, 49, 50, 51, 52, 53, 54, 55, 56, 57, 58, 59, 60, 61, 62, 63, 64, 65, 66, 67, 68, 69, 70, 71, 72, 73, 74, 75, 76, 77, 78, 176, 177, 178, 179, 180, 181, 182, 183, 184, 185, 186, 187, 188, 189, 190, 191, 192] (by decide +kernel) (by decide +kernel)
set_option maxRecDepth 20000 in
theorem gX4_carryOut_X1_prepare_n39 : GoodIn wsX4_carryOut (wsX1_prepare) := ggX4_carryOut_X1_prepare
set_option maxRecDepth 20000 in
theorem ggX4_carryOut_X4_carryOutOrder : GoodIn wsX4_carryOut wsX4_carryOutOrder := goodIn_r _ [83, 3, 84, 53, 85, 86, 57, 56, 62, 63, 64, 87, 88, 89, 90, 91, 70, 92, 93, 78, 94, 95, 96, 97, 98, 99, 100, 73, 75, 76, 77, 101, 102, 103, 65, 66, 67, 104, 105, 106, 107, 108, 109, 110, 111, 112, 113, 114, 115, 116, 117, 118, 119, 120, 121, 122, 123, 124, 125, 126, 127, 128, 129, 82, 130, 131, 132, 133, 134, 135, 136, 137, 138, 139, 140, 141, 142, 143, 68, 144, 145, 146, 147, 148, 149, 150, 161, 162, 163, 164, 165, 166, 167, 168, 179, 180, 181, 182, 183, 184, 185, 186, 187, 188, 189, 190, 191, 192] (by decide +kernel) (by decide +kernel)
set_option maxRecDepth 20000 in
theorem gX4_carryOut_X4_carryOutOrder : GoodIn wsX4_carryOut (wsV RX4 177 RX4 yX4_carryOutOrder wsX4_carryOutOrder) := goodIn_app (goodIn_of _ (by decide +kernel)) ggX4_carryOut_X4_carryOutOrder
set_option maxRecDepth 20000 in
theorem ggX4_carryOut_X4_isError : GoodIn wsX4_carryOut wsX4_isError := goodIn_r _ [153] (by decide +kernel) (by decide +kernel)
set_option maxRecDepth 20000 in
theorem gX4_carryOut_X4_isError : GoodIn wsX4_carryOut (va_wsS RX4 151 yX4_isError wsX4_isError) := goodIn_app (goodIn_of _ (by decide +kernel)) ggX4_carryOut_X4_isError
set_option maxRecDepth 20000 in
theorem ggX4_carryOut_X2_empty : GoodIn wsX4_carryOut wsX2_empty := goodIn_r _ [156, 10, 169, 170, 171, 172, 173, 174, 175] (by decide +kernel) (by decide +kernel)
set_option maxRecDepth 20000 in
theorem gX4_carryOut_X2_empty_n159 : GoodIn wsX4_carryOut (wsX2_empty) := ggX4_carryOut_X2_empty
set_option maxRecDepth 20000 in
theorem ggX4_carryOut_X1_keep : GoodIn wsX4_carryOut wsX1_keep := goodIn_r _ [159, 50, 160, 152, 82, 153, 176, 177, 178] (by decide +kernel) (by decide +kernel)
set_option maxRecDepth 20000 in
theorem gX4_carryOut_X1_keep_n47 : GoodIn wsX4_carryOut (wsX1_keep) := ggX4_carryOut_X1_keep
theorem dX4_carryOut_0 : decode cX4_carryOut 0 = .ok (.aload_n 0, 1) := by decide +kernel
theorem dX4_carryOut_1 : decode cX4_carryOut 1 = .ok (.getfield 35, 3) := by decide +kernel
theorem dX4_carryOut_4 : decode cX4_carryOut 4 = .ok (.invokevirtual 161, 3) := by decide +kernel
theorem dX4_carryOut_7 : decode cX4_carryOut 7 = .ok (.bipush (-6), 2) := by decide +kernel
theorem dX4_carryOut_9 : decode cX4_carryOut 9 = .ok (.if_icmp .eq 6, 3) := by decide +kernel
theorem dX4_carryOut_12 : decode cX4_carryOut 12 = .ok (.bipush (-3), 2) := by decide +kernel
theorem dX4_carryOut_14 : decode cX4_carryOut 14 = .ok (.ireturn, 1) := by decide +kernel
theorem dX4_carryOut_15 : decode cX4_carryOut 15 = .ok (.aload_n 0, 1) := by decide +kernel
theorem dX4_carryOut_16 : decode cX4_carryOut 16 = .ok (.getfield 28, 3) := by decide +kernel
theorem dX4_carryOut_19 : decode cX4_carryOut 19 = .ok (.aload_n 0, 1) := by decide +kernel
theorem dX4_carryOut_20 : decode cX4_carryOut 20 = .ok (.getfield 10, 3) := by decide +kernel
theorem dX4_carryOut_23 : decode cX4_carryOut 23 = .ok (.invokevirtual 39, 3) := by decide +kernel
theorem dX4_carryOut_26 : decode cX4_carryOut 26 = .ok (.iconst 0, 1) := by decide +kernel
theorem dX4_carryOut_27 : decode cX4_carryOut 27 = .ok (.istore_n 1, 1) := by decide +kernel
theorem dX4_carryOut_28 : decode cX4_carryOut 28 = .ok (.iload_n 1, 1) := by decide +kernel
theorem dX4_carryOut_29 : decode cX4_carryOut 29 = .ok (.aload_n 0, 1) := by decide +kernel
theorem dX4_carryOut_30 : decode cX4_carryOut 30 = .ok (.getfield 35, 3) := by decide +kernel
theorem dX4_carryOut_33 : decode cX4_carryOut 33 = .ok (.getfield 164, 3) := by decide +kernel
theorem dX4_carryOut_36 : decode cX4_carryOut 36 = .ok (.if_icmp .ge 55, 3) := by decide +kernel
theorem dX4_carryOut_39 : decode cX4_carryOut 39 = .ok (.iload_n 1, 1) := by decide +kernel
theorem dX4_carryOut_40 : decode cX4_carryOut 40 = .ok (.bipush 40, 2) := by decide +kernel
theorem dX4_carryOut_42 : decode cX4_carryOut 42 = .ok (.if_icmp .ge 49, 3) := by decide +kernel
theorem dX4_carryOut_45 : decode cX4_carryOut 45 = .ok (.aload_n 0, 1) := by decide +kernel
theorem dX4_carryOut_46 : decode cX4_carryOut 46 = .ok (.aload_n 0, 1) := by decide +kernel
theorem dX4_carryOut_47 : decode cX4_carryOut 47 = .ok (.getfield 35, 3) := by decide +kernel
theorem dX4_carryOut_50 : decode cX4_carryOut 50 = .ok (.getfield 167, 3) := by decide +kernel
theorem dX4_carryOut_53 : decode cX4_carryOut 53 = .ok (.iload_n 1, 1) := by decide +kernel
theorem dX4_carryOut_54 : decode cX4_carryOut 54 = .ok (.iaload, 1) := by decide +kernel
theorem dX4_carryOut_55 : decode cX4_carryOut 55 = .ok (.aload_n 0, 1) := by decide +kernel
theorem dX4_carryOut_56 : decode cX4_carryOut 56 = .ok (.getfield 35, 3) := by decide +kernel
theorem dX4_carryOut_59 : decode cX4_carryOut 59 = .ok (.getfield 171, 3) := by decide +kernel
theorem dX4_carryOut_62 : decode cX4_carryOut 62 = .ok (.iload_n 1, 1) := by decide +kernel
theorem dX4_carryOut_63 : decode cX4_carryOut 63 = .ok (.iaload, 1) := by decide +kernel
theorem dX4_carryOut_64 : decode cX4_carryOut 64 = .ok (.aload_n 0, 1) := by decide +kernel
theorem dX4_carryOut_65 : decode cX4_carryOut 65 = .ok (.getfield 35, 3) := by decide +kernel
theorem dX4_carryOut_68 : decode cX4_carryOut 68 = .ok (.getfield 174, 3) := by decide +kernel
theorem dX4_carryOut_71 : decode cX4_carryOut 71 = .ok (.iload_n 1, 1) := by decide +kernel
theorem dX4_carryOut_72 : decode cX4_carryOut 72 = .ok (.iaload, 1) := by decide +kernel
theorem dX4_carryOut_73 : decode cX4_carryOut 73 = .ok (.invokevirtual 177, 3) := by decide +kernel
theorem dX4_carryOut_76 : decode cX4_carryOut 76 = .ok (.invokestatic 151, 3) := by decide +kernel
theorem dX4_carryOut_79 : decode cX4_carryOut 79 = .ok (.ifCond .eq 6, 3) := by decide +kernel
theorem dX4_carryOut_82 : decode cX4_carryOut 82 = .ok (.goto 9, 3) := by decide +kernel
theorem dX4_carryOut_85 : decode cX4_carryOut 85 = .ok (.iinc 1 1, 3) := by decide +kernel
theorem dX4_carryOut_88 : decode cX4_carryOut 88 = .ok (.goto (-60), 3) := by decide +kernel
theorem dX4_carryOut_91 : decode cX4_carryOut 91 = .ok (.aload_n 0, 1) := by decide +kernel
theorem dX4_carryOut_92 : decode cX4_carryOut 92 = .ok (.getfield 35, 3) := by decide +kernel
theorem dX4_carryOut_95 : decode cX4_carryOut 95 = .ok (.invokevirtual 159, 3) := by decide +kernel
theorem dX4_carryOut_98 : decode cX4_carryOut 98 = .ok (.pop, 1) := by decide +kernel
theorem dX4_carryOut_99 : decode cX4_carryOut 99 = .ok (.aload_n 0, 1) := by decide +kernel
theorem dX4_carryOut_100 : decode cX4_carryOut 100 = .ok (.getfield 28, 3) := by decide +kernel
theorem dX4_carryOut_103 : decode cX4_carryOut 103 = .ok (.iload_n 1, 1) := by decide +kernel
theorem dX4_carryOut_104 : decode cX4_carryOut 104 = .ok (.invokevirtual 47, 3) := by decide +kernel
theorem dX4_carryOut_107 : decode cX4_carryOut 107 = .ok (.ireturn, 1) := by decide +kernel
set_option maxRecDepth 20000 in
theorem ggX4_undo_X1_takeBack : GoodIn wsX4_undo wsX1_takeBack := goodIn_r _ [6, 7, 8, 9, 10, 11, 4, 12, 13, 14, 15, 16, 17, 18, 19, 20, 21, 22, 23, 24, 25, 26, 27, 28, 29, 30, 31, 32, 33, 34, 35, 36, 37, 38, 39, 40, 49, 50, 51, 52, 53, 54, 55, 56, 57, 58, 59, 60, 61, 62, 63, 64, 65] (by decide +kernel) (by decide +kernel)
set_option maxRecDepth 20000 in
theorem gX4_undo_X1_takeBack_n181 : GoodIn wsX4_undo (wsX1_takeBack) := ggX4_undo_X1_takeBack
theorem dX4_undo_0 : decode cX4_undo 0 = .ok (.aload_n 0, 1) := by decide +kernel
theorem dX4_undo_1 : decode cX4_undo 1 = .ok (.getfield 28, 3) := by decide +kernel
theorem dX4_undo_4 : decode cX4_undo 4 = .ok (.aload_n 0, 1) := by decide +kernel
theorem dX4_undo_5 : decode cX4_undo 5 = .ok (.getfield 10, 3) := by decide +kernel
theorem dX4_undo_8 : decode cX4_undo 8 = .ok (.invokevirtual 181, 3) := by decide +kernel
theorem dX4_undo_11 : decode cX4_undo 11 = .ok (.ireturn, 1) := by decide +kernel
set_option maxRecDepth 20000 in
theorem ggX4_save_X0_copyFrom : GoodIn wsX4_save wsX0_copyFrom := goodIn_r _ [9, 10, 11, 12, 13, 14, 15, 16, 17, 18, 19, 20, 21, 22, 23, 24, 25, 26, 27, 28, 29, 30, 31, 32, 88, 89, 90, 91, 92, 93, 94, 95, 96, 97, 98, 99, 100, 101] (by decide +kernel) (by decide +kernel)
set_option maxRecDepth 20000 in
theorem gX4_save_X0_copyFrom_n148 : GoodIn wsX4_save (wsX0_copyFrom) := ggX4_save_X0_copyFrom
set_option maxRecDepth 20000 in
theorem ggX4_save_X0_writtenPlaces : GoodIn wsX4_save wsX0_writtenPlaces := goodIn_r _ [35, 36, 37, 38, 7, 39, 10, 40, 41, 42, 43, 16, 17, 44, 45, 46, 47, 48, 49, 50, 51, 11, 52, 53, 54, 55, 56, 57, 58, 59, 60, 24, 61, 62, 31, 27, 29, 30, 63, 64, 65, 66, 67, 68, 69, 70, 71, 72, 73, 74, 75, 76, 77, 78, 79, 88, 89, 90, 91, 92, 93, 94, 95, 96, 97, 98, 99, 100, 101] (by decide +kernel) (by decide +kernel)
set_option maxRecDepth 20000 in
theorem gX4_save_X0_writtenPlaces_n136 : GoodIn wsX4_save (wsX0_writtenPlaces) := ggX4_save_X0_writtenPlaces
theorem dX4_save_0 : decode cX4_save 0 = .ok (.iload_n 1, 1) := by decide +kernel
theorem dX4_save_1 : decode cX4_save 1 = .ok (.ifCond .ne 22, 3) := by decide +kernel
theorem dX4_save_4 : decode cX4_save 4 = .ok (.aload_n 0, 1) := by decide +kernel
theorem dX4_save_5 : decode cX4_save 5 = .ok (.getfield 19, 3) := by decide +kernel
theorem dX4_save_8 : decode cX4_save 8 = .ok (.aload_n 0, 1) := by decide +kernel
theorem dX4_save_9 : decode cX4_save 9 = .ok (.getfield 10, 3) := by decide +kernel
theorem dX4_save_12 : decode cX4_save 12 = .ok (.invokevirtual 148, 3) := by decide +kernel
theorem dX4_save_15 : decode cX4_save 15 = .ok (.aload_n 0, 1) := by decide +kernel
theorem dX4_save_16 : decode cX4_save 16 = .ok (.iconst 1, 1) := by decide +kernel
theorem dX4_save_17 : decode cX4_save 17 = .ok (.putfield 185, 3) := by decide +kernel
theorem dX4_save_20 : decode cX4_save 20 = .ok (.goto 30, 3) := by decide +kernel
theorem dX4_save_23 : decode cX4_save 23 = .ok (.iload_n 1, 1) := by decide +kernel
theorem dX4_save_24 : decode cX4_save 24 = .ok (.iconst 1, 1) := by decide +kernel
theorem dX4_save_25 : decode cX4_save 25 = .ok (.if_icmp .ne 22, 3) := by decide +kernel
theorem dX4_save_28 : decode cX4_save 28 = .ok (.aload_n 0, 1) := by decide +kernel
theorem dX4_save_29 : decode cX4_save 29 = .ok (.getfield 22, 3) := by decide +kernel
theorem dX4_save_32 : decode cX4_save 32 = .ok (.aload_n 0, 1) := by decide +kernel
theorem dX4_save_33 : decode cX4_save 33 = .ok (.getfield 10, 3) := by decide +kernel
theorem dX4_save_36 : decode cX4_save 36 = .ok (.invokevirtual 148, 3) := by decide +kernel
theorem dX4_save_39 : decode cX4_save 39 = .ok (.aload_n 0, 1) := by decide +kernel
theorem dX4_save_40 : decode cX4_save 40 = .ok (.iconst 1, 1) := by decide +kernel
theorem dX4_save_41 : decode cX4_save 41 = .ok (.putfield 189, 3) := by decide +kernel
theorem dX4_save_44 : decode cX4_save 44 = .ok (.goto 6, 3) := by decide +kernel
theorem dX4_save_47 : decode cX4_save 47 = .ok (.bipush (-2), 2) := by decide +kernel
theorem dX4_save_49 : decode cX4_save 49 = .ok (.ireturn, 1) := by decide +kernel
theorem dX4_save_50 : decode cX4_save 50 = .ok (.aload_n 0, 1) := by decide +kernel
theorem dX4_save_51 : decode cX4_save 51 = .ok (.getfield 10, 3) := by decide +kernel
theorem dX4_save_54 : decode cX4_save 54 = .ok (.invokevirtual 136, 3) := by decide +kernel
theorem dX4_save_57 : decode cX4_save 57 = .ok (.ireturn, 1) := by decide +kernel
set_option maxRecDepth 20000 in
theorem ggX4_restore_X1_prepare : GoodIn wsX4_restore wsX1_prepare := goodIn_r _ [10, 11, 12, 13, 8, 14, 15, 16, 17, 18, 19, 20, 21, 22, 23, 24, 25, 26, 27, 28, 29, 30, 31, 32, 33, 34, 35, 36, 37, 38, 39, 40, 41, 42, 43, 106, 107, 108, 109, 110, 111, 112, 113, 114, 115, 116, 117, 118, 119, 120, 121, 122] (by decide +kernel) (by decide +kernel)
set_option maxRecDepth 20000 in
theorem gX4_restore_X1_prepare_n39 : GoodIn wsX4_restore (wsX1_prepare) := ggX4_restore_X1_prepare
set_option maxRecDepth 20000 in
theorem ggX4_restore_X0_copyFrom : GoodIn wsX4_restore wsX0_copyFrom := goodIn_r _ [20, 21, 22, 23, 24, 25, 26, 27, 28, 29, 30, 31, 32, 33, 34, 35, 36, 37, 38, 39, 40, 41, 42, 43, 109, 110, 111, 112, 113, 114, 115, 116, 117, 118, 119, 120, 121, 122] (by decide +kernel) (by decide +kernel)
set_option maxRecDepth 20000 in
theorem gX4_restore_X0_copyFrom_n148 : GoodIn wsX4_restore (wsX0_copyFrom) := ggX4_restore_X0_copyFrom
set_option maxRecDepth 20000 in
theorem ggX4_restore_X0_writtenPlaces : GoodIn wsX4_restore wsX0_writtenPlaces := goodIn_r _ [46, 47, 48, 49, 18, 50, 21, 51, 52, 53, 54, 27, 28, 55, 56, 57, 58, 59, 60, 61, 62, 22, 63, 64, 65, 66, 67, 68, 69, 70, 71, 35, 72, 73, 42, 38, 40, 41, 74, 75, 76, 77, 78, 79, 80, 81, 82, 83, 84, 85, 86, 87, 88, 89, 90, 109, 110, 111, 112, 113, 114, 115, 116, 117, 118, 119, 120, 121, 122] (by decide +kernel) (by decide +kernel)
set_option maxRecDepth 20000 in
theorem gX4_restore_X0_writtenPlaces_n136 : GoodIn wsX4_restore (wsX0_writtenPlaces) := ggX4_restore_X0_writtenPlaces
set_option maxRecDepth 20000 in
theorem ggX4_restore_X1_keep : GoodIn wsX4_restore wsX1_keep := goodIn_r _ [93, 15, 94, 95, 96, 97, 106, 107, 108] (by decide +kernel) (by decide +kernel)
set_option maxRecDepth 20000 in
theorem gX4_restore_X1_keep_n47 : GoodIn wsX4_restore (wsX1_keep) := ggX4_restore_X1_keep
theorem dX4_restore_0 : decode cX4_restore 0 = .ok (.iload_n 1, 1) := by decide +kernel
theorem dX4_restore_1 : decode cX4_restore 1 = .ok (.ifCond .eq 11, 3) := by decide +kernel
theorem dX4_restore_4 : decode cX4_restore 4 = .ok (.iload_n 1, 1) := by decide +kernel
theorem dX4_restore_5 : decode cX4_restore 5 = .ok (.iconst 1, 1) := by decide +kernel
theorem dX4_restore_6 : decode cX4_restore 6 = .ok (.if_icmp .eq 6, 3) := by decide +kernel
theorem dX4_restore_9 : decode cX4_restore 9 = .ok (.bipush (-2), 2) := by decide +kernel
theorem dX4_restore_11 : decode cX4_restore 11 = .ok (.ireturn, 1) := by decide +kernel
theorem dX4_restore_12 : decode cX4_restore 12 = .ok (.iload_n 1, 1) := by decide +kernel
theorem dX4_restore_13 : decode cX4_restore 13 = .ok (.ifCond .ne 13, 3) := by decide +kernel
theorem dX4_restore_16 : decode cX4_restore 16 = .ok (.aload_n 0, 1) := by decide +kernel
theorem dX4_restore_17 : decode cX4_restore 17 = .ok (.getfield 185, 3) := by decide +kernel
theorem dX4_restore_20 : decode cX4_restore 20 = .ok (.ifCond .ne 16, 3) := by decide +kernel
theorem dX4_restore_23 : decode cX4_restore 23 = .ok (.goto 10, 3) := by decide +kernel
theorem dX4_restore_26 : decode cX4_restore 26 = .ok (.aload_n 0, 1) := by decide +kernel
theorem dX4_restore_27 : decode cX4_restore 27 = .ok (.getfield 189, 3) := by decide +kernel
theorem dX4_restore_30 : decode cX4_restore 30 = .ok (.ifCond .ne 6, 3) := by decide +kernel
theorem dX4_restore_33 : decode cX4_restore 33 = .ok (.bipush (-5), 2) := by decide +kernel
theorem dX4_restore_35 : decode cX4_restore 35 = .ok (.ireturn, 1) := by decide +kernel
theorem dX4_restore_36 : decode cX4_restore 36 = .ok (.aload_n 0, 1) := by decide +kernel
theorem dX4_restore_37 : decode cX4_restore 37 = .ok (.getfield 28, 3) := by decide +kernel
theorem dX4_restore_40 : decode cX4_restore 40 = .ok (.aload_n 0, 1) := by decide +kernel
theorem dX4_restore_41 : decode cX4_restore 41 = .ok (.getfield 10, 3) := by decide +kernel
theorem dX4_restore_44 : decode cX4_restore 44 = .ok (.invokevirtual 39, 3) := by decide +kernel
theorem dX4_restore_47 : decode cX4_restore 47 = .ok (.aload_n 0, 1) := by decide +kernel
theorem dX4_restore_48 : decode cX4_restore 48 = .ok (.getfield 10, 3) := by decide +kernel
theorem dX4_restore_51 : decode cX4_restore 51 = .ok (.iload_n 1, 1) := by decide +kernel
theorem dX4_restore_52 : decode cX4_restore 52 = .ok (.ifCond .ne 10, 3) := by decide +kernel
theorem dX4_restore_55 : decode cX4_restore 55 = .ok (.aload_n 0, 1) := by decide +kernel
theorem dX4_restore_56 : decode cX4_restore 56 = .ok (.getfield 19, 3) := by decide +kernel
theorem dX4_restore_59 : decode cX4_restore 59 = .ok (.goto 7, 3) := by decide +kernel
theorem dX4_restore_62 : decode cX4_restore 62 = .ok (.aload_n 0, 1) := by decide +kernel
theorem dX4_restore_63 : decode cX4_restore 63 = .ok (.getfield 22, 3) := by decide +kernel
theorem dX4_restore_66 : decode cX4_restore 66 = .ok (.invokevirtual 148, 3) := by decide +kernel
theorem dX4_restore_69 : decode cX4_restore 69 = .ok (.aload_n 0, 1) := by decide +kernel
theorem dX4_restore_70 : decode cX4_restore 70 = .ok (.getfield 28, 3) := by decide +kernel
theorem dX4_restore_73 : decode cX4_restore 73 = .ok (.aload_n 0, 1) := by decide +kernel
theorem dX4_restore_74 : decode cX4_restore 74 = .ok (.getfield 10, 3) := by decide +kernel
theorem dX4_restore_77 : decode cX4_restore 77 = .ok (.invokevirtual 136, 3) := by decide +kernel
theorem dX4_restore_80 : decode cX4_restore 80 = .ok (.invokevirtual 47, 3) := by decide +kernel
theorem dX4_restore_83 : decode cX4_restore 83 = .ok (.ireturn, 1) := by decide +kernel
set_option maxRecDepth 20000 in
theorem ggX4_carryOutOrder_X0_store : GoodIn wsX4_carryOutOrder wsX0_store := goodIn_r _ [5, 6, 7, 8, 9, 10, 11, 12, 13, 3, 14, 15, 16, 17, 18, 19, 20, 21, 22, 23, 24, 25, 26, 27, 28, 29, 30, 94, 95, 96, 97, 98, 99, 100, 101, 102, 103, 104, 105, 106, 107] (by decide +kernel) (by decide +kernel)
set_option maxRecDepth 20000 in
theorem gX4_carryOutOrder_X0_store_n50 : GoodIn wsX4_carryOutOrder (wsX0_store) := ggX4_carryOutOrder_X0_store
set_option maxRecDepth 20000 in
theorem ggX4_carryOutOrder_X0_fetch : GoodIn wsX4_carryOutOrder wsX0_fetch := goodIn_r _ [33, 34, 8, 35, 9, 36, 11, 12, 13, 3, 14, 7, 37, 38, 39, 40, 41, 42, 43, 44, 6, 45, 46, 47, 48, 49, 16, 50, 51, 30, 27, 28, 29, 52, 53, 54, 55, 20, 21, 22, 56, 57, 58, 94, 95, 96, 97, 98, 99, 100, 101, 102, 103, 104, 105, 106, 107] (by decide +kernel) (by decide +kernel)
set_option maxRecDepth 20000 in
theorem gX4_carryOutOrder_X0_fetch_n60 : GoodIn wsX4_carryOutOrder (wsX0_fetch) := ggX4_carryOutOrder_X0_fetch
set_option maxRecDepth 20000 in
theorem ggX4_carryOutOrder_X0_expect : GoodIn wsX4_carryOutOrder wsX0_expect := goodIn_r _ [61, 62, 63, 64, 65, 66, 67, 3, 68, 8, 9, 103, 104, 105, 106, 107, 94, 95, 96, 97, 98, 99, 100, 101, 102] (by decide +kernel) (by decide +kernel)
set_option maxRecDepth 20000 in
theorem gX4_carryOutOrder_X0_expect_n54 : GoodIn wsX4_carryOutOrder (wsX0_expect) := ggX4_carryOutOrder_X0_expect
set_option maxRecDepth 20000 in
theorem ggX4_carryOutOrder_X0_empty : GoodIn wsX4_carryOutOrder wsX0_empty := goodIn_r _ [71, 62, 63, 64, 11, 12, 13, 3, 14, 7, 65, 66, 67, 68, 8, 9, 72, 16, 73, 74, 28, 52, 53, 54, 55, 94, 95, 96, 97, 98, 99, 100, 101, 102, 103, 104, 105, 106, 107] (by decide +kernel) (by decide +kernel)
set_option maxRecDepth 20000 in
theorem gX4_carryOutOrder_X0_empty_n57 : GoodIn wsX4_carryOutOrder (wsX0_empty) := ggX4_carryOutOrder_X0_empty
set_option maxRecDepth 20000 in
theorem ggX4_carryOutOrder_X0_repairAll : GoodIn wsX4_carryOutOrder wsX0_repairAll := goodIn_r _ [77, 78, 7, 79, 80, 81, 3, 82, 8, 9, 11, 12, 13, 14, 45, 46, 47, 48, 41, 42, 43, 44, 6, 49, 16, 50, 51, 30, 27, 28, 29, 52, 53, 54, 55, 20, 21, 22, 83, 84, 85, 23, 24, 25, 26, 94, 95, 96, 97, 98, 99, 100, 101, 102, 103, 104, 105, 106, 107] (by decide +kernel) (by decide +kernel)
set_option maxRecDepth 20000 in
theorem gX4_carryOutOrder_X0_repairAll_n66 : GoodIn wsX4_carryOutOrder (wsX0_repairAll) := ggX4_carryOutOrder_X0_repairAll
theorem dX4_carryOutOrder_0 : decode cX4_carryOutOrder 0 = .ok (.iload_n 1, 1) := by decide +kernel
theorem dX4_carryOutOrder_1 : decode cX4_carryOutOrder 1 = .ok (.lookupswitch 82 #[(33, 62), (114, 53), (119, 43), (120, 72)], 43) := by decide +kernel
theorem dX4_carryOutOrder_44 : decode cX4_carryOutOrder 44 = .ok (.aload_n 0, 1) := by decide +kernel
theorem dX4_carryOutOrder_45 : decode cX4_carryOutOrder 45 = .ok (.getfield 10, 3) := by decide +kernel
theorem dX4_carryOutOrder_48 : decode cX4_carryOutOrder 48 = .ok (.iload_n 2, 1) := by decide +kernel
theorem dX4_carryOutOrder_49 : decode cX4_carryOutOrder 49 = .ok (.iload_n 3, 1) := by decide +kernel
theorem dX4_carryOutOrder_50 : decode cX4_carryOutOrder 50 = .ok (.invokevirtual 50, 3) := by decide +kernel
theorem dX4_carryOutOrder_53 : decode cX4_carryOutOrder 53 = .ok (.ireturn, 1) := by decide +kernel
theorem dX4_carryOutOrder_54 : decode cX4_carryOutOrder 54 = .ok (.aload_n 0, 1) := by decide +kernel
theorem dX4_carryOutOrder_55 : decode cX4_carryOutOrder 55 = .ok (.getfield 10, 3) := by decide +kernel
theorem dX4_carryOutOrder_58 : decode cX4_carryOutOrder 58 = .ok (.iload_n 3, 1) := by decide +kernel
theorem dX4_carryOutOrder_59 : decode cX4_carryOutOrder 59 = .ok (.invokevirtual 60, 3) := by decide +kernel
theorem dX4_carryOutOrder_62 : decode cX4_carryOutOrder 62 = .ok (.ireturn, 1) := by decide +kernel
theorem dX4_carryOutOrder_63 : decode cX4_carryOutOrder 63 = .ok (.aload_n 0, 1) := by decide +kernel
theorem dX4_carryOutOrder_64 : decode cX4_carryOutOrder 64 = .ok (.getfield 10, 3) := by decide +kernel
theorem dX4_carryOutOrder_67 : decode cX4_carryOutOrder 67 = .ok (.iload_n 2, 1) := by decide +kernel
theorem dX4_carryOutOrder_68 : decode cX4_carryOutOrder 68 = .ok (.iload_n 3, 1) := by decide +kernel
theorem dX4_carryOutOrder_69 : decode cX4_carryOutOrder 69 = .ok (.invokevirtual 54, 3) := by decide +kernel
theorem dX4_carryOutOrder_72 : decode cX4_carryOutOrder 72 = .ok (.ireturn, 1) := by decide +kernel
theorem dX4_carryOutOrder_73 : decode cX4_carryOutOrder 73 = .ok (.aload_n 0, 1) := by decide +kernel
theorem dX4_carryOutOrder_74 : decode cX4_carryOutOrder 74 = .ok (.getfield 10, 3) := by decide +kernel
theorem dX4_carryOutOrder_77 : decode cX4_carryOutOrder 77 = .ok (.iload_n 2, 1) := by decide +kernel
theorem dX4_carryOutOrder_78 : decode cX4_carryOutOrder 78 = .ok (.iload_n 3, 1) := by decide +kernel
theorem dX4_carryOutOrder_79 : decode cX4_carryOutOrder 79 = .ok (.invokevirtual 57, 3) := by decide +kernel
theorem dX4_carryOutOrder_82 : decode cX4_carryOutOrder 82 = .ok (.ireturn, 1) := by decide +kernel
theorem dX4_carryOutOrder_83 : decode cX4_carryOutOrder 83 = .ok (.aload_n 0, 1) := by decide +kernel
theorem dX4_carryOutOrder_84 : decode cX4_carryOutOrder 84 = .ok (.getfield 10, 3) := by decide +kernel
theorem dX4_carryOutOrder_87 : decode cX4_carryOutOrder 87 = .ok (.invokevirtual 66, 3) := by decide +kernel
theorem dX4_carryOutOrder_90 : decode cX4_carryOutOrder 90 = .ok (.ireturn, 1) := by decide +kernel
theorem dX4_isSide_0 : decode cX4_isSide 0 = .ok (.iload_n 0, 1) := by decide +kernel
theorem dX4_isSide_1 : decode cX4_isSide 1 = .ok (.ifCond .eq 8, 3) := by decide +kernel
theorem dX4_isSide_4 : decode cX4_isSide 4 = .ok (.iload_n 0, 1) := by decide +kernel
theorem dX4_isSide_5 : decode cX4_isSide 5 = .ok (.iconst 1, 1) := by decide +kernel
theorem dX4_isSide_6 : decode cX4_isSide 6 = .ok (.if_icmp .ne 7, 3) := by decide +kernel
theorem dX4_isSide_9 : decode cX4_isSide 9 = .ok (.iconst 1, 1) := by decide +kernel
theorem dX4_isSide_10 : decode cX4_isSide 10 = .ok (.goto 4, 3) := by decide +kernel
theorem dX4_isSide_13 : decode cX4_isSide 13 = .ok (.iconst 0, 1) := by decide +kernel
theorem dX4_isSide_14 : decode cX4_isSide 14 = .ok (.ireturn, 1) := by decide +kernel
theorem dX4_isError_0 : decode cX4_isError 0 = .ok (.iload_n 0, 1) := by decide +kernel
theorem dX4_isError_1 : decode cX4_isError 1 = .ok (.bipush (-5), 2) := by decide +kernel
theorem dX4_isError_3 : decode cX4_isError 3 = .ok (.if_icmp .lt 12, 3) := by decide +kernel
theorem dX4_isError_6 : decode cX4_isError 6 = .ok (.iload_n 0, 1) := by decide +kernel
theorem dX4_isError_7 : decode cX4_isError 7 = .ok (.iconst (-1), 1) := by decide +kernel
theorem dX4_isError_8 : decode cX4_isError 8 = .ok (.if_icmp .gt 7, 3) := by decide +kernel
theorem dX4_isError_11 : decode cX4_isError 11 = .ok (.iconst 1, 1) := by decide +kernel
theorem dX4_isError_12 : decode cX4_isError 12 = .ok (.goto 4, 3) := by decide +kernel
theorem dX4_isError_15 : decode cX4_isError 15 = .ok (.iconst 0, 1) := by decide +kernel
theorem dX4_isError_16 : decode cX4_isError 16 = .ok (.ireturn, 1) := by decide +kernel
theorem dX4_floatBitsOf_0 : decode cX4_floatBitsOf 0 = .ok (.iload_n 0, 1) := by decide +kernel
theorem dX4_floatBitsOf_1 : decode cX4_floatBitsOf 1 = .ok (.ifCond .le 7, 3) := by decide +kernel
theorem dX4_floatBitsOf_4 : decode cX4_floatBitsOf 4 = .ok (.iload_n 1, 1) := by decide +kernel
theorem dX4_floatBitsOf_5 : decode cX4_floatBitsOf 5 = .ok (.ifCond .gt 5, 3) := by decide +kernel
theorem dX4_floatBitsOf_8 : decode cX4_floatBitsOf 8 = .ok (.iconst 0, 1) := by decide +kernel
theorem dX4_floatBitsOf_9 : decode cX4_floatBitsOf 9 = .ok (.ireturn, 1) := by decide +kernel
theorem dX4_floatBitsOf_10 : decode cX4_floatBitsOf 10 = .ok (.iload_n 0, 1) := by decide +kernel
theorem dX4_floatBitsOf_11 : decode cX4_floatBitsOf 11 = .ok (.i2l, 1) := by decide +kernel
theorem dX4_floatBitsOf_12 : decode cX4_floatBitsOf 12 = .ok (.lstore_n 2, 1) := by decide +kernel
theorem dX4_floatBitsOf_13 : decode cX4_floatBitsOf 13 = .ok (.bipush 127, 2) := by decide +kernel
theorem dX4_floatBitsOf_15 : decode cX4_floatBitsOf 15 = .ok (.istore 4, 2) := by decide +kernel
theorem dX4_floatBitsOf_17 : decode cX4_floatBitsOf 17 = .ok (.iconst 0, 1) := by decide +kernel
theorem dX4_floatBitsOf_18 : decode cX4_floatBitsOf 18 = .ok (.istore 5, 2) := by decide +kernel
theorem dX4_floatBitsOf_20 : decode cX4_floatBitsOf 20 = .ok (.iload 5, 2) := by decide +kernel
theorem dX4_floatBitsOf_22 : decode cX4_floatBitsOf 22 = .ok (.bipush 32, 2) := by decide +kernel
theorem dX4_floatBitsOf_24 : decode cX4_floatBitsOf 24 = .ok (.if_icmp .ge 23, 3) := by decide +kernel
theorem dX4_floatBitsOf_27 : decode cX4_floatBitsOf 27 = .ok (.lload_n 2, 1) := by decide +kernel
theorem dX4_floatBitsOf_28 : decode cX4_floatBitsOf 28 = .ok (.iload_n 1, 1) := by decide +kernel
theorem dX4_floatBitsOf_29 : decode cX4_floatBitsOf 29 = .ok (.i2l, 1) := by decide +kernel
theorem dX4_floatBitsOf_30 : decode cX4_floatBitsOf 30 = .ok (.lcmp, 1) := by decide +kernel
theorem dX4_floatBitsOf_31 : decode cX4_floatBitsOf 31 = .ok (.ifCond .ge 16, 3) := by decide +kernel
theorem dX4_floatBitsOf_34 : decode cX4_floatBitsOf 34 = .ok (.lload_n 2, 1) := by decide +kernel
theorem dX4_floatBitsOf_35 : decode cX4_floatBitsOf 35 = .ok (.iconst 1, 1) := by decide +kernel
theorem dX4_floatBitsOf_36 : decode cX4_floatBitsOf 36 = .ok (.lshl, 1) := by decide +kernel
theorem dX4_floatBitsOf_37 : decode cX4_floatBitsOf 37 = .ok (.lstore_n 2, 1) := by decide +kernel
theorem dX4_floatBitsOf_38 : decode cX4_floatBitsOf 38 = .ok (.iinc 4 (-1), 3) := by decide +kernel
theorem dX4_floatBitsOf_41 : decode cX4_floatBitsOf 41 = .ok (.iinc 5 1, 3) := by decide +kernel
theorem dX4_floatBitsOf_44 : decode cX4_floatBitsOf 44 = .ok (.goto (-24), 3) := by decide +kernel
theorem dX4_floatBitsOf_47 : decode cX4_floatBitsOf 47 = .ok (.lload_n 2, 1) := by decide +kernel
theorem dX4_floatBitsOf_48 : decode cX4_floatBitsOf 48 = .ok (.bipush 23, 2) := by decide +kernel
theorem dX4_floatBitsOf_50 : decode cX4_floatBitsOf 50 = .ok (.lshl, 1) := by decide +kernel
theorem dX4_floatBitsOf_51 : decode cX4_floatBitsOf 51 = .ok (.lstore_n 2, 1) := by decide +kernel
theorem dX4_floatBitsOf_52 : decode cX4_floatBitsOf 52 = .ok (.lload_n 2, 1) := by decide +kernel
theorem dX4_floatBitsOf_53 : decode cX4_floatBitsOf 53 = .ok (.iload_n 1, 1) := by decide +kernel
theorem dX4_floatBitsOf_54 : decode cX4_floatBitsOf 54 = .ok (.i2l, 1) := by decide +kernel
theorem dX4_floatBitsOf_55 : decode cX4_floatBitsOf 55 = .ok (.ldiv, 1) := by decide +kernel
theorem dX4_floatBitsOf_56 : decode cX4_floatBitsOf 56 = .ok (.lstore 5, 2) := by decide +kernel
theorem dX4_floatBitsOf_58 : decode cX4_floatBitsOf 58 = .ok (.ldc2_w 192, 3) := by decide +kernel
theorem dX4_floatBitsOf_61 : decode cX4_floatBitsOf 61 = .ok (.lload_n 2, 1) := by decide +kernel
theorem dX4_floatBitsOf_62 : decode cX4_floatBitsOf 62 = .ok (.iload_n 1, 1) := by decide +kernel
theorem dX4_floatBitsOf_63 : decode cX4_floatBitsOf 63 = .ok (.i2l, 1) := by decide +kernel
theorem dX4_floatBitsOf_64 : decode cX4_floatBitsOf 64 = .ok (.lrem, 1) := by decide +kernel
theorem dX4_floatBitsOf_65 : decode cX4_floatBitsOf 65 = .ok (.lmul, 1) := by decide +kernel
theorem dX4_floatBitsOf_66 : decode cX4_floatBitsOf 66 = .ok (.iload_n 1, 1) := by decide +kernel
theorem dX4_floatBitsOf_67 : decode cX4_floatBitsOf 67 = .ok (.i2l, 1) := by decide +kernel
theorem dX4_floatBitsOf_68 : decode cX4_floatBitsOf 68 = .ok (.lcmp, 1) := by decide +kernel
theorem dX4_floatBitsOf_69 : decode cX4_floatBitsOf 69 = .ok (.ifCond .le 9, 3) := by decide +kernel
theorem dX4_floatBitsOf_72 : decode cX4_floatBitsOf 72 = .ok (.lload 5, 2) := by decide +kernel
theorem dX4_floatBitsOf_74 : decode cX4_floatBitsOf 74 = .ok (.lconst 1, 1) := by decide +kernel
theorem dX4_floatBitsOf_75 : decode cX4_floatBitsOf 75 = .ok (.ladd, 1) := by decide +kernel
theorem dX4_floatBitsOf_76 : decode cX4_floatBitsOf 76 = .ok (.lstore 5, 2) := by decide +kernel
theorem dX4_floatBitsOf_78 : decode cX4_floatBitsOf 78 = .ok (.iload 4, 2) := by decide +kernel
theorem dX4_floatBitsOf_80 : decode cX4_floatBitsOf 80 = .ok (.iconst 1, 1) := by decide +kernel
theorem dX4_floatBitsOf_81 : decode cX4_floatBitsOf 81 = .ok (.isub, 1) := by decide +kernel
theorem dX4_floatBitsOf_82 : decode cX4_floatBitsOf 82 = .ok (.bipush 23, 2) := by decide +kernel
theorem dX4_floatBitsOf_84 : decode cX4_floatBitsOf 84 = .ok (.ishl, 1) := by decide +kernel
theorem dX4_floatBitsOf_85 : decode cX4_floatBitsOf 85 = .ok (.lload 5, 2) := by decide +kernel
theorem dX4_floatBitsOf_87 : decode cX4_floatBitsOf 87 = .ok (.l2i, 1) := by decide +kernel
theorem dX4_floatBitsOf_88 : decode cX4_floatBitsOf 88 = .ok (.iadd, 1) := by decide +kernel
theorem dX4_floatBitsOf_89 : decode cX4_floatBitsOf 89 = .ok (.ireturn, 1) := by decide +kernel
theorem dX5_init_0 : decode cX5_init 0 = .ok (.aload_n 0, 1) := by decide +kernel
theorem dX5_init_1 : decode cX5_init 1 = .ok (.invokespecial 1, 3) := by decide +kernel
theorem dX5_init_4 : decode cX5_init 4 = .ok (.aload_n 0, 1) := by decide +kernel
theorem dX5_init_5 : decode cX5_init 5 = .ok (.sipush 360, 3) := by decide +kernel
theorem dX5_init_8 : decode cX5_init 8 = .ok (.newarray .int, 2) := by decide +kernel
theorem dX5_init_10 : decode cX5_init 10 = .ok (.putfield 7, 3) := by decide +kernel
theorem dX5_init_13 : decode cX5_init 13 = .ok (.aload_n 0, 1) := by decide +kernel
theorem dX5_init_14 : decode cX5_init 14 = .ok (.sipush 360, 3) := by decide +kernel
theorem dX5_init_17 : decode cX5_init 17 = .ok (.newarray .int, 2) := by decide +kernel
theorem dX5_init_19 : decode cX5_init 19 = .ok (.putfield 13, 3) := by decide +kernel
theorem dX5_init_22 : decode cX5_init 22 = .ok (.aload_n 0, 1) := by decide +kernel
theorem dX5_init_23 : decode cX5_init 23 = .ok (.sipush 2160, 3) := by decide +kernel
theorem dX5_init_26 : decode cX5_init 26 = .ok (.newarray .int, 2) := by decide +kernel
theorem dX5_init_28 : decode cX5_init 28 = .ok (.putfield 16, 3) := by decide +kernel
theorem dX5_init_31 : decode cX5_init 31 = .ok (.aload_n 0, 1) := by decide +kernel
theorem dX5_init_32 : decode cX5_init 32 = .ok (.sipush 720, 3) := by decide +kernel
theorem dX5_init_35 : decode cX5_init 35 = .ok (.newarray .int, 2) := by decide +kernel
theorem dX5_init_37 : decode cX5_init 37 = .ok (.putfield 19, 3) := by decide +kernel
theorem dX5_init_40 : decode cX5_init 40 = .ok (.aload_n 0, 1) := by decide +kernel
theorem dX5_init_41 : decode cX5_init 41 = .ok (.iconst 2, 1) := by decide +kernel
theorem dX5_init_42 : decode cX5_init 42 = .ok (.newarray .boolean, 2) := by decide +kernel
theorem dX5_init_44 : decode cX5_init 44 = .ok (.putfield 22, 3) := by decide +kernel
theorem dX5_init_47 : decode cX5_init 47 = .ok (.aload_n 0, 1) := by decide +kernel
theorem dX5_init_48 : decode cX5_init 48 = .ok (.bipush 80, 2) := by decide +kernel
theorem dX5_init_50 : decode cX5_init 50 = .ok (.newarray .int, 2) := by decide +kernel
theorem dX5_init_52 : decode cX5_init 52 = .ok (.putfield 26, 3) := by decide +kernel
theorem dX5_init_55 : decode cX5_init 55 = .ok (.aload_n 0, 1) := by decide +kernel
theorem dX5_init_56 : decode cX5_init 56 = .ok (.getfield 7, 3) := by decide +kernel
theorem dX5_init_59 : decode cX5_init 59 = .ok (.iconst 0, 1) := by decide +kernel
theorem dX5_init_60 : decode cX5_init 60 = .ok (.bipush 16, 2) := by decide +kernel
theorem dX5_init_62 : decode cX5_init 62 = .ok (.iastore, 1) := by decide +kernel
theorem dX5_init_63 : decode cX5_init 63 = .ok (.return_, 1) := by decide +kernel
theorem dX5_in_0 : decode cX5_in 0 = .ok (.iload_n 0, 1) := by decide +kernel
theorem dX5_in_1 : decode cX5_in 1 = .ok (.iload_n 1, 1) := by decide +kernel
theorem dX5_in_2 : decode cX5_in 2 = .ok (.if_icmp .lt 12, 3) := by decide +kernel
theorem dX5_in_5 : decode cX5_in 5 = .ok (.iload_n 0, 1) := by decide +kernel
theorem dX5_in_6 : decode cX5_in 6 = .ok (.iload_n 2, 1) := by decide +kernel
theorem dX5_in_7 : decode cX5_in 7 = .ok (.if_icmp .gt 7, 3) := by decide +kernel
theorem dX5_in_10 : decode cX5_in 10 = .ok (.iconst 1, 1) := by decide +kernel
theorem dX5_in_11 : decode cX5_in 11 = .ok (.goto 4, 3) := by decide +kernel
theorem dX5_in_14 : decode cX5_in 14 = .ok (.iconst 0, 1) := by decide +kernel
theorem dX5_in_15 : decode cX5_in 15 = .ok (.ireturn, 1) := by decide +kernel
set_option maxRecDepth 20000 in
theorem ggX5_isPlace_X5_in : GoodIn wsX5_isPlace wsX5_in := goodIn_r _ [5] (by decide +kernel) (by decide +kernel)
set_option maxRecDepth 20000 in
theorem gX5_isPlace_X5_in : GoodIn wsX5_isPlace (va_wsS RX5 29 yX5_in wsX5_in) := goodIn_app (goodIn_of _ (by decide +kernel)) ggX5_isPlace_X5_in
theorem dX5_isPlace_0 : decode cX5_isPlace 0 = .ok (.iload_n 1, 1) := by decide +kernel
theorem dX5_isPlace_1 : decode cX5_isPlace 1 = .ok (.iconst 0, 1) := by decide +kernel
theorem dX5_isPlace_2 : decode cX5_isPlace 2 = .ok (.aload_n 0, 1) := by decide +kernel
theorem dX5_isPlace_3 : decode cX5_isPlace 3 = .ok (.getfield 7, 3) := by decide +kernel
theorem dX5_isPlace_6 : decode cX5_isPlace 6 = .ok (.iconst 0, 1) := by decide +kernel
theorem dX5_isPlace_7 : decode cX5_isPlace 7 = .ok (.iaload, 1) := by decide +kernel
theorem dX5_isPlace_8 : decode cX5_isPlace 8 = .ok (.iconst 1, 1) := by decide +kernel
theorem dX5_isPlace_9 : decode cX5_isPlace 9 = .ok (.isub, 1) := by decide +kernel
theorem dX5_isPlace_10 : decode cX5_isPlace 10 = .ok (.invokestatic 29, 3) := by decide +kernel
theorem dX5_isPlace_13 : decode cX5_isPlace 13 = .ok (.ireturn, 1) := by decide +kernel
theorem dX5_of_0 : decode cX5_of 0 = .ok (.bipush 40, 2) := by decide +kernel
theorem dX5_of_2 : decode cX5_of 2 = .ok (.sipush 160, 3) := by decide +kernel
theorem dX5_of_5 : decode cX5_of 5 = .ok (.iload_n 0, 1) := by decide +kernel
theorem dX5_of_6 : decode cX5_of 6 = .ok (.imul, 1) := by decide +kernel
theorem dX5_of_7 : decode cX5_of 7 = .ok (.iadd, 1) := by decide +kernel
theorem dX5_of_8 : decode cX5_of 8 = .ok (.iconst 5, 1) := by decide +kernel
theorem dX5_of_9 : decode cX5_of 9 = .ok (.iload_n 1, 1) := by decide +kernel
theorem dX5_of_10 : decode cX5_of 10 = .ok (.imul, 1) := by decide +kernel
theorem dX5_of_11 : decode cX5_of 11 = .ok (.iadd, 1) := by decide +kernel
theorem dX5_of_12 : decode cX5_of 12 = .ok (.iload_n 2, 1) := by decide +kernel
theorem dX5_of_13 : decode cX5_of 13 = .ok (.iadd, 1) := by decide +kernel
theorem dX5_of_14 : decode cX5_of 14 = .ok (.ireturn, 1) := by decide +kernel
theorem dX5_know_0 : decode cX5_know 0 = .ok (.aload_n 0, 1) := by decide +kernel
theorem dX5_know_1 : decode cX5_know 1 = .ok (.getfield 33, 3) := by decide +kernel
theorem dX5_know_4 : decode cX5_know 4 = .ok (.bipush 6, 2) := by decide +kernel
theorem dX5_know_6 : decode cX5_know 6 = .ok (.if_icmp .ne 44, 3) := by decide +kernel
theorem dX5_know_9 : decode cX5_know 9 = .ok (.iconst 0, 1) := by decide +kernel
theorem dX5_know_10 : decode cX5_know 10 = .ok (.istore_n 1, 1) := by decide +kernel
theorem dX5_know_11 : decode cX5_know 11 = .ok (.iload_n 1, 1) := by decide +kernel
theorem dX5_know_12 : decode cX5_know 12 = .ok (.sipush 1800, 3) := by decide +kernel
theorem dX5_know_15 : decode cX5_know 15 = .ok (.if_icmp .ge 25, 3) := by decide +kernel
theorem dX5_know_18 : decode cX5_know 18 = .ok (.aload_n 0, 1) := by decide +kernel
theorem dX5_know_19 : decode cX5_know 19 = .ok (.getfield 16, 3) := by decide +kernel
theorem dX5_know_22 : decode cX5_know 22 = .ok (.iload_n 1, 1) := by decide +kernel
theorem dX5_know_23 : decode cX5_know 23 = .ok (.aload_n 0, 1) := by decide +kernel
theorem dX5_know_24 : decode cX5_know 24 = .ok (.getfield 16, 3) := by decide +kernel
theorem dX5_know_27 : decode cX5_know 27 = .ok (.sipush 360, 3) := by decide +kernel
theorem dX5_know_30 : decode cX5_know 30 = .ok (.iload_n 1, 1) := by decide +kernel
theorem dX5_know_31 : decode cX5_know 31 = .ok (.iadd, 1) := by decide +kernel
theorem dX5_know_32 : decode cX5_know 32 = .ok (.iaload, 1) := by decide +kernel
theorem dX5_know_33 : decode cX5_know 33 = .ok (.iastore, 1) := by decide +kernel
theorem dX5_know_34 : decode cX5_know 34 = .ok (.iinc 1 1, 3) := by decide +kernel
theorem dX5_know_37 : decode cX5_know 37 = .ok (.goto (-26), 3) := by decide +kernel
theorem dX5_know_40 : decode cX5_know 40 = .ok (.aload_n 0, 1) := by decide +kernel
theorem dX5_know_41 : decode cX5_know 41 = .ok (.dup, 1) := by decide +kernel
theorem dX5_know_42 : decode cX5_know 42 = .ok (.getfield 33, 3) := by decide +kernel
theorem dX5_know_45 : decode cX5_know 45 = .ok (.iconst 1, 1) := by decide +kernel
theorem dX5_know_46 : decode cX5_know 46 = .ok (.isub, 1) := by decide +kernel
theorem dX5_know_47 : decode cX5_know 47 = .ok (.putfield 33, 3) := by decide +kernel
theorem dX5_know_50 : decode cX5_know 50 = .ok (.iconst 0, 1) := by decide +kernel
theorem dX5_know_51 : decode cX5_know 51 = .ok (.istore_n 1, 1) := by decide +kernel
theorem dX5_know_52 : decode cX5_know 52 = .ok (.iload_n 1, 1) := by decide +kernel
theorem dX5_know_53 : decode cX5_know 53 = .ok (.sipush 360, 3) := by decide +kernel
theorem dX5_know_56 : decode cX5_know 56 = .ok (.if_icmp .ge 30, 3) := by decide +kernel
theorem dX5_know_59 : decode cX5_know 59 = .ok (.aload_n 0, 1) := by decide +kernel
theorem dX5_know_60 : decode cX5_know 60 = .ok (.getfield 16, 3) := by decide +kernel
theorem dX5_know_63 : decode cX5_know 63 = .ok (.sipush 360, 3) := by decide +kernel
theorem dX5_know_66 : decode cX5_know 66 = .ok (.aload_n 0, 1) := by decide +kernel
theorem dX5_know_67 : decode cX5_know 67 = .ok (.getfield 33, 3) := by decide +kernel
theorem dX5_know_70 : decode cX5_know 70 = .ok (.imul, 1) := by decide +kernel
theorem dX5_know_71 : decode cX5_know 71 = .ok (.iload_n 1, 1) := by decide +kernel
theorem dX5_know_72 : decode cX5_know 72 = .ok (.iadd, 1) := by decide +kernel
theorem dX5_know_73 : decode cX5_know 73 = .ok (.aload_n 0, 1) := by decide +kernel
theorem dX5_know_74 : decode cX5_know 74 = .ok (.getfield 7, 3) := by decide +kernel
theorem dX5_know_77 : decode cX5_know 77 = .ok (.iload_n 1, 1) := by decide +kernel
theorem dX5_know_78 : decode cX5_know 78 = .ok (.iaload, 1) := by decide +kernel
theorem dX5_know_79 : decode cX5_know 79 = .ok (.iastore, 1) := by decide +kernel
theorem dX5_know_80 : decode cX5_know 80 = .ok (.iinc 1 1, 3) := by decide +kernel
theorem dX5_know_83 : decode cX5_know 83 = .ok (.goto (-31), 3) := by decide +kernel
theorem dX5_know_86 : decode cX5_know 86 = .ok (.aload_n 0, 1) := by decide +kernel
theorem dX5_know_87 : decode cX5_know 87 = .ok (.dup, 1) := by decide +kernel
theorem dX5_know_88 : decode cX5_know 88 = .ok (.getfield 33, 3) := by decide +kernel
theorem dX5_know_91 : decode cX5_know 91 = .ok (.iconst 1, 1) := by decide +kernel
theorem dX5_know_92 : decode cX5_know 92 = .ok (.iadd, 1) := by decide +kernel
theorem dX5_know_93 : decode cX5_know 93 = .ok (.putfield 33, 3) := by decide +kernel
theorem dX5_know_96 : decode cX5_know 96 = .ok (.return_, 1) := by decide +kernel
theorem dX5_putAside_0 : decode cX5_putAside 0 = .ok (.iconst 0, 1) := by decide +kernel
theorem dX5_putAside_1 : decode cX5_putAside 1 = .ok (.istore_n 1, 1) := by decide +kernel
theorem dX5_putAside_2 : decode cX5_putAside 2 = .ok (.iload_n 1, 1) := by decide +kernel
theorem dX5_putAside_3 : decode cX5_putAside 3 = .ok (.sipush 360, 3) := by decide +kernel
theorem dX5_putAside_6 : decode cX5_putAside 6 = .ok (.if_icmp .ge 21, 3) := by decide +kernel
theorem dX5_putAside_9 : decode cX5_putAside 9 = .ok (.aload_n 0, 1) := by decide +kernel
theorem dX5_putAside_10 : decode cX5_putAside 10 = .ok (.getfield 13, 3) := by decide +kernel
theorem dX5_putAside_13 : decode cX5_putAside 13 = .ok (.iload_n 1, 1) := by decide +kernel
theorem dX5_putAside_14 : decode cX5_putAside 14 = .ok (.aload_n 0, 1) := by decide +kernel
theorem dX5_putAside_15 : decode cX5_putAside 15 = .ok (.getfield 7, 3) := by decide +kernel
theorem dX5_putAside_18 : decode cX5_putAside 18 = .ok (.iload_n 1, 1) := by decide +kernel
theorem dX5_putAside_19 : decode cX5_putAside 19 = .ok (.iaload, 1) := by decide +kernel
theorem dX5_putAside_20 : decode cX5_putAside 20 = .ok (.iastore, 1) := by decide +kernel
theorem dX5_putAside_21 : decode cX5_putAside 21 = .ok (.iinc 1 1, 3) := by decide +kernel
theorem dX5_putAside_24 : decode cX5_putAside 24 = .ok (.goto (-22), 3) := by decide +kernel
theorem dX5_putAside_27 : decode cX5_putAside 27 = .ok (.return_, 1) := by decide +kernel
theorem dX5_putBack_0 : decode cX5_putBack 0 = .ok (.iconst 0, 1) := by decide +kernel
theorem dX5_putBack_1 : decode cX5_putBack 1 = .ok (.istore_n 1, 1) := by decide +kernel
theorem dX5_putBack_2 : decode cX5_putBack 2 = .ok (.iload_n 1, 1) := by decide +kernel
theorem dX5_putBack_3 : decode cX5_putBack 3 = .ok (.sipush 360, 3) := by decide +kernel
theorem dX5_putBack_6 : decode cX5_putBack 6 = .ok (.if_icmp .ge 21, 3) := by decide +kernel
theorem dX5_putBack_9 : decode cX5_putBack 9 = .ok (.aload_n 0, 1) := by decide +kernel
theorem dX5_putBack_10 : decode cX5_putBack 10 = .ok (.getfield 7, 3) := by decide +kernel
theorem dX5_putBack_13 : decode cX5_putBack 13 = .ok (.iload_n 1, 1) := by decide +kernel
theorem dX5_putBack_14 : decode cX5_putBack 14 = .ok (.aload_n 0, 1) := by decide +kernel
theorem dX5_putBack_15 : decode cX5_putBack 15 = .ok (.getfield 13, 3) := by decide +kernel
theorem dX5_putBack_18 : decode cX5_putBack 18 = .ok (.iload_n 1, 1) := by decide +kernel
theorem dX5_putBack_19 : decode cX5_putBack 19 = .ok (.iaload, 1) := by decide +kernel
theorem dX5_putBack_20 : decode cX5_putBack 20 = .ok (.iastore, 1) := by decide +kernel
theorem dX5_putBack_21 : decode cX5_putBack 21 = .ok (.iinc 1 1, 3) := by decide +kernel
theorem dX5_putBack_24 : decode cX5_putBack 24 = .ok (.goto (-22), 3) := by decide +kernel
theorem dX5_putBack_27 : decode cX5_putBack 27 = .ok (.return_, 1) := by decide +kernel
theorem dX5_sumOf_0 : decode cX5_sumOf 0 = .ok (.bipush 7, 2) := by decide +kernel
