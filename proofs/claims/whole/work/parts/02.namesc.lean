theorem dX1_keep_4 : decode cX1_keep 4 = .ok (.ifCond .eq 5, 3) := by decide +kernel
theorem dX1_keep_7 : decode cX1_keep 7 = .ok (.iload_n 1, 1) := by decide +kernel
theorem dX1_keep_8 : decode cX1_keep 8 = .ok (.ireturn, 1) := by decide +kernel
theorem dX1_keep_9 : decode cX1_keep 9 = .ok (.aload_n 0, 1) := by decide +kernel
theorem dX1_keep_10 : decode cX1_keep 10 = .ok (.aload_n 0, 1) := by decide +kernel
theorem dX1_keep_11 : decode cX1_keep 11 = .ok (.getfield 30, 3) := by decide +kernel
theorem dX1_keep_14 : decode cX1_keep 14 = .ok (.bipush 6, 2) := by decide +kernel
theorem dX1_keep_16 : decode cX1_keep 16 = .ok (.if_icmp .ge 12, 3) := by decide +kernel
theorem dX1_keep_19 : decode cX1_keep 19 = .ok (.aload_n 0, 1) := by decide +kernel
theorem dX1_keep_20 : decode cX1_keep 20 = .ok (.getfield 30, 3) := by decide +kernel
theorem dX1_keep_23 : decode cX1_keep 23 = .ok (.iconst 1, 1) := by decide +kernel
theorem dX1_keep_24 : decode cX1_keep 24 = .ok (.iadd, 1) := by decide +kernel
theorem dX1_keep_25 : decode cX1_keep 25 = .ok (.goto 4, 3) := by decide +kernel
theorem dX1_keep_28 : decode cX1_keep 28 = .ok (.iconst 0, 1) := by decide +kernel
theorem dX1_keep_29 : decode cX1_keep 29 = .ok (.putfield 30, 3) := by decide +kernel
theorem dX1_keep_32 : decode cX1_keep 32 = .ok (.aload_n 0, 1) := by decide +kernel
theorem dX1_keep_33 : decode cX1_keep 33 = .ok (.getfield 34, 3) := by decide +kernel
theorem dX1_keep_36 : decode cX1_keep 36 = .ok (.bipush 6, 2) := by decide +kernel
theorem dX1_keep_38 : decode cX1_keep 38 = .ok (.if_icmp .ge 13, 3) := by decide +kernel
theorem dX1_keep_41 : decode cX1_keep 41 = .ok (.aload_n 0, 1) := by decide +kernel
theorem dX1_keep_42 : decode cX1_keep 42 = .ok (.dup, 1) := by decide +kernel
theorem dX1_keep_43 : decode cX1_keep 43 = .ok (.getfield 34, 3) := by decide +kernel
theorem dX1_keep_46 : decode cX1_keep 46 = .ok (.iconst 1, 1) := by decide +kernel
theorem dX1_keep_47 : decode cX1_keep 47 = .ok (.iadd, 1) := by decide +kernel
theorem dX1_keep_48 : decode cX1_keep 48 = .ok (.putfield 34, 3) := by decide +kernel
theorem dX1_keep_51 : decode cX1_keep 51 = .ok (.iload_n 1, 1) := by decide +kernel
theorem dX1_keep_52 : decode cX1_keep 52 = .ok (.ireturn, 1) := by decide +kernel
set_option maxRecDepth 20000 in
theorem ggX1_takeBack_X1_spareRow : GoodIn wsX1_takeBack wsX1_spareRow := goodIn_r _ [7, 2, 8, 36, 37, 38] (by decide +kernel) (by decide +kernel)
set_option maxRecDepth 20000 in
theorem gX1_takeBack_X1_spareRow : GoodIn wsX1_takeBack (wsV RX1 18 RX1 yX1_spareRow wsX1_spareRow) := goodIn_app (goodIn_of _ (by decide +kernel)) ggX1_takeBack_X1_spareRow
set_option maxRecDepth 20000 in
theorem ggX1_takeBack_X0_copyFrom : GoodIn wsX1_takeBack wsX0_copyFrom := goodIn_r _ [12, 13, 14, 15, 16, 17, 18, 19, 20, 21, 22, 23, 24, 25, 26, 27, 28, 29, 30, 31, 32, 33, 34, 35, 39, 40, 41, 42, 43, 44, 45, 46, 47, 48, 49, 50, 51, 52] (by decide +kernel) (by decide +kernel)
set_option maxRecDepth 20000 in
theorem gX1_takeBack_X0_copyFrom_n22 : GoodIn wsX1_takeBack (wsX0_copyFrom) := ggX1_takeBack_X0_copyFrom
theorem dX1_takeBack_0 : decode cX1_takeBack 0 = .ok (.aload_n 0, 1) := by decide +kernel
theorem dX1_takeBack_1 : decode cX1_takeBack 1 = .ok (.getfield 34, 3) := by decide +kernel
theorem dX1_takeBack_4 : decode cX1_takeBack 4 = .ok (.ifCond .ne 6, 3) := by decide +kernel
theorem dX1_takeBack_7 : decode cX1_takeBack 7 = .ok (.bipush (-5), 2) := by decide +kernel
theorem dX1_takeBack_9 : decode cX1_takeBack 9 = .ok (.ireturn, 1) := by decide +kernel
theorem dX1_takeBack_10 : decode cX1_takeBack 10 = .ok (.aload_n 0, 1) := by decide +kernel
theorem dX1_takeBack_11 : decode cX1_takeBack 11 = .ok (.dup, 1) := by decide +kernel
theorem dX1_takeBack_12 : decode cX1_takeBack 12 = .ok (.getfield 34, 3) := by decide +kernel
theorem dX1_takeBack_15 : decode cX1_takeBack 15 = .ok (.iconst 1, 1) := by decide +kernel
theorem dX1_takeBack_16 : decode cX1_takeBack 16 = .ok (.isub, 1) := by decide +kernel
theorem dX1_takeBack_17 : decode cX1_takeBack 17 = .ok (.putfield 34, 3) := by decide +kernel
theorem dX1_takeBack_20 : decode cX1_takeBack 20 = .ok (.aload_n 0, 1) := by decide +kernel
theorem dX1_takeBack_21 : decode cX1_takeBack 21 = .ok (.aload_n 0, 1) := by decide +kernel
theorem dX1_takeBack_22 : decode cX1_takeBack 22 = .ok (.getfield 30, 3) := by decide +kernel
theorem dX1_takeBack_25 : decode cX1_takeBack 25 = .ok (.ifCond .le 12, 3) := by decide +kernel
theorem dX1_takeBack_28 : decode cX1_takeBack 28 = .ok (.aload_n 0, 1) := by decide +kernel
theorem dX1_takeBack_29 : decode cX1_takeBack 29 = .ok (.getfield 30, 3) := by decide +kernel
theorem dX1_takeBack_32 : decode cX1_takeBack 32 = .ok (.iconst 1, 1) := by decide +kernel
theorem dX1_takeBack_33 : decode cX1_takeBack 33 = .ok (.isub, 1) := by decide +kernel
theorem dX1_takeBack_34 : decode cX1_takeBack 34 = .ok (.goto 5, 3) := by decide +kernel
theorem dX1_takeBack_37 : decode cX1_takeBack 37 = .ok (.bipush 6, 2) := by decide +kernel
theorem dX1_takeBack_39 : decode cX1_takeBack 39 = .ok (.putfield 30, 3) := by decide +kernel
theorem dX1_takeBack_42 : decode cX1_takeBack 42 = .ok (.aload_n 0, 1) := by decide +kernel
theorem dX1_takeBack_43 : decode cX1_takeBack 43 = .ok (.invokevirtual 18, 3) := by decide +kernel
theorem dX1_takeBack_46 : decode cX1_takeBack 46 = .ok (.astore_n 2, 1) := by decide +kernel
theorem dX1_takeBack_47 : decode cX1_takeBack 47 = .ok (.aload_n 2, 1) := by decide +kernel
theorem dX1_takeBack_48 : decode cX1_takeBack 48 = .ok (.ifnull 8, 3) := by decide +kernel
theorem dX1_takeBack_51 : decode cX1_takeBack 51 = .ok (.aload_n 1, 1) := by decide +kernel
theorem dX1_takeBack_52 : decode cX1_takeBack 52 = .ok (.aload_n 2, 1) := by decide +kernel
theorem dX1_takeBack_53 : decode cX1_takeBack 53 = .ok (.invokevirtual 22, 3) := by decide +kernel
theorem dX1_takeBack_56 : decode cX1_takeBack 56 = .ok (.aload_n 0, 1) := by decide +kernel
theorem dX1_takeBack_57 : decode cX1_takeBack 57 = .ok (.getfield 34, 3) := by decide +kernel
theorem dX1_takeBack_60 : decode cX1_takeBack 60 = .ok (.ireturn, 1) := by decide +kernel
theorem dX1_spareRow_0 : decode cX1_spareRow 0 = .ok (.aload_n 0, 1) := by decide +kernel
theorem dX1_spareRow_1 : decode cX1_spareRow 1 = .ok (.getfield 30, 3) := by decide +kernel
theorem dX1_spareRow_4 : decode cX1_spareRow 4 = .ok (.ifCond .lt 27, 3) := by decide +kernel
theorem dX1_spareRow_7 : decode cX1_spareRow 7 = .ok (.aload_n 0, 1) := by decide +kernel
theorem dX1_spareRow_8 : decode cX1_spareRow 8 = .ok (.getfield 30, 3) := by decide +kernel
theorem dX1_spareRow_11 : decode cX1_spareRow 11 = .ok (.aload_n 0, 1) := by decide +kernel
theorem dX1_spareRow_12 : decode cX1_spareRow 12 = .ok (.getfield 11, 3) := by decide +kernel
theorem dX1_spareRow_15 : decode cX1_spareRow 15 = .ok (.arraylength, 1) := by decide +kernel
theorem dX1_spareRow_16 : decode cX1_spareRow 16 = .ok (.if_icmp .ge 15, 3) := by decide +kernel
theorem dX1_spareRow_19 : decode cX1_spareRow 19 = .ok (.aload_n 0, 1) := by decide +kernel
theorem dX1_spareRow_20 : decode cX1_spareRow 20 = .ok (.getfield 11, 3) := by decide +kernel
theorem dX1_spareRow_23 : decode cX1_spareRow 23 = .ok (.aload_n 0, 1) := by decide +kernel
theorem dX1_spareRow_24 : decode cX1_spareRow 24 = .ok (.getfield 30, 3) := by decide +kernel
theorem dX1_spareRow_27 : decode cX1_spareRow 27 = .ok (.aaload, 1) := by decide +kernel
theorem dX1_spareRow_28 : decode cX1_spareRow 28 = .ok (.goto 4, 3) := by decide +kernel
theorem dX1_spareRow_31 : decode cX1_spareRow 31 = .ok (.aconst_null, 1) := by decide +kernel
theorem dX1_spareRow_32 : decode cX1_spareRow 32 = .ok (.areturn, 1) := by decide +kernel
theorem dX2_init_0 : decode cX2_init 0 = .ok (.aload_n 0, 1) := by decide +kernel
theorem dX2_init_1 : decode cX2_init 1 = .ok (.invokespecial 3, 3) := by decide +kernel
theorem dX2_init_4 : decode cX2_init 4 = .ok (.aload_n 0, 1) := by decide +kernel
theorem dX2_init_5 : decode cX2_init 5 = .ok (.bipush 80, 2) := by decide +kernel
theorem dX2_init_7 : decode cX2_init 7 = .ok (.newarray .char, 2) := by decide +kernel
theorem dX2_init_9 : decode cX2_init 9 = .ok (.putfield 9, 3) := by decide +kernel
theorem dX2_init_12 : decode cX2_init 12 = .ok (.aload_n 0, 1) := by decide +kernel
theorem dX2_init_13 : decode cX2_init 13 = .ok (.bipush 40, 2) := by decide +kernel
theorem dX2_init_15 : decode cX2_init 15 = .ok (.newarray .int, 2) := by decide +kernel
theorem dX2_init_17 : decode cX2_init 17 = .ok (.putfield 15, 3) := by decide +kernel
theorem dX2_init_20 : decode cX2_init 20 = .ok (.aload_n 0, 1) := by decide +kernel
theorem dX2_init_21 : decode cX2_init 21 = .ok (.bipush 40, 2) := by decide +kernel
theorem dX2_init_23 : decode cX2_init 23 = .ok (.newarray .int, 2) := by decide +kernel
theorem dX2_init_25 : decode cX2_init 25 = .ok (.putfield 19, 3) := by decide +kernel
theorem dX2_init_28 : decode cX2_init 28 = .ok (.aload_n 0, 1) := by decide +kernel
theorem dX2_init_29 : decode cX2_init 29 = .ok (.bipush 40, 2) := by decide +kernel
theorem dX2_init_31 : decode cX2_init 31 = .ok (.newarray .int, 2) := by decide +kernel
theorem dX2_init_33 : decode cX2_init 33 = .ok (.putfield 22, 3) := by decide +kernel
theorem dX2_init_36 : decode cX2_init 36 = .ok (.return_, 1) := by decide +kernel
set_option maxRecDepth 20000 in
theorem ggX2_append_X2_lengthOf : GoodIn wsX2_append wsX2_lengthOf := goodIn_r _ [7, 3, 8, 9] (by decide +kernel) (by decide +kernel)
set_option maxRecDepth 20000 in
theorem gX2_append_X2_lengthOf : GoodIn wsX2_append (va_wsS RX2 25 yX2_lengthOf wsX2_lengthOf) := goodIn_app (goodIn_of _ (by decide +kernel)) ggX2_append_X2_lengthOf
theorem dX2_append_0 : decode cX2_append 0 = .ok (.lload_n 1, 1) := by decide +kernel
theorem dX2_append_1 : decode cX2_append 1 = .ok (.invokestatic 25, 3) := by decide +kernel
theorem dX2_append_4 : decode cX2_append 4 = .ok (.istore_n 3, 1) := by decide +kernel
theorem dX2_append_5 : decode cX2_append 5 = .ok (.iload_n 3, 1) := by decide +kernel
theorem dX2_append_6 : decode cX2_append 6 = .ok (.ifCond .ne 6, 3) := by decide +kernel
theorem dX2_append_9 : decode cX2_append 9 = .ok (.bipush (-2), 2) := by decide +kernel
theorem dX2_append_11 : decode cX2_append 11 = .ok (.ireturn, 1) := by decide +kernel
theorem dX2_append_12 : decode cX2_append 12 = .ok (.aload_n 0, 1) := by decide +kernel
theorem dX2_append_13 : decode cX2_append 13 = .ok (.getfield 29, 3) := by decide +kernel
theorem dX2_append_16 : decode cX2_append 16 = .ok (.iload_n 3, 1) := by decide +kernel
theorem dX2_append_17 : decode cX2_append 17 = .ok (.iadd, 1) := by decide +kernel
theorem dX2_append_18 : decode cX2_append 18 = .ok (.bipush 80, 2) := by decide +kernel
theorem dX2_append_20 : decode cX2_append 20 = .ok (.if_icmp .le 6, 3) := by decide +kernel
theorem dX2_append_23 : decode cX2_append 23 = .ok (.bipush (-4), 2) := by decide +kernel
theorem dX2_append_25 : decode cX2_append 25 = .ok (.ireturn, 1) := by decide +kernel
theorem dX2_append_26 : decode cX2_append 26 = .ok (.iload_n 3, 1) := by decide +kernel
theorem dX2_append_27 : decode cX2_append 27 = .ok (.iconst 1, 1) := by decide +kernel
theorem dX2_append_28 : decode cX2_append 28 = .ok (.isub, 1) := by decide +kernel
theorem dX2_append_29 : decode cX2_append 29 = .ok (.istore 4, 2) := by decide +kernel
theorem dX2_append_31 : decode cX2_append 31 = .ok (.iload 4, 2) := by decide +kernel
theorem dX2_append_33 : decode cX2_append 33 = .ok (.ifCond .lt 57, 3) := by decide +kernel
theorem dX2_append_36 : decode cX2_append 36 = .ok (.aload_n 0, 1) := by decide +kernel
theorem dX2_append_37 : decode cX2_append 37 = .ok (.getfield 29, 3) := by decide +kernel
theorem dX2_append_40 : decode cX2_append 40 = .ok (.ifCond .lt 50, 3) := by decide +kernel
theorem dX2_append_43 : decode cX2_append 43 = .ok (.aload_n 0, 1) := by decide +kernel
theorem dX2_append_44 : decode cX2_append 44 = .ok (.getfield 29, 3) := by decide +kernel
theorem dX2_append_47 : decode cX2_append 47 = .ok (.bipush 80, 2) := by decide +kernel
theorem dX2_append_49 : decode cX2_append 49 = .ok (.if_icmp .ge 41, 3) := by decide +kernel
theorem dX2_append_52 : decode cX2_append 52 = .ok (.aload_n 0, 1) := by decide +kernel
theorem dX2_append_53 : decode cX2_append 53 = .ok (.getfield 9, 3) := by decide +kernel
theorem dX2_append_56 : decode cX2_append 56 = .ok (.aload_n 0, 1) := by decide +kernel
theorem dX2_append_57 : decode cX2_append 57 = .ok (.getfield 29, 3) := by decide +kernel
theorem dX2_append_60 : decode cX2_append 60 = .ok (.lload_n 1, 1) := by decide +kernel
theorem dX2_append_61 : decode cX2_append 61 = .ok (.bipush 8, 2) := by decide +kernel
theorem dX2_append_63 : decode cX2_append 63 = .ok (.iload 4, 2) := by decide +kernel
theorem dX2_append_65 : decode cX2_append 65 = .ok (.imul, 1) := by decide +kernel
theorem dX2_append_66 : decode cX2_append 66 = .ok (.lushr, 1) := by decide +kernel
theorem dX2_append_67 : decode cX2_append 67 = .ok (.ldc2_w 33, 3) := by decide +kernel
theorem dX2_append_70 : decode cX2_append 70 = .ok (.land, 1) := by decide +kernel
theorem dX2_append_71 : decode cX2_append 71 = .ok (.l2i, 1) := by decide +kernel
theorem dX2_append_72 : decode cX2_append 72 = .ok (.i2c, 1) := by decide +kernel
theorem dX2_append_73 : decode cX2_append 73 = .ok (.castore, 1) := by decide +kernel
theorem dX2_append_74 : decode cX2_append 74 = .ok (.aload_n 0, 1) := by decide +kernel
theorem dX2_append_75 : decode cX2_append 75 = .ok (.dup, 1) := by decide +kernel
theorem dX2_append_76 : decode cX2_append 76 = .ok (.getfield 29, 3) := by decide +kernel
theorem dX2_append_79 : decode cX2_append 79 = .ok (.iconst 1, 1) := by decide +kernel
theorem dX2_append_80 : decode cX2_append 80 = .ok (.iadd, 1) := by decide +kernel
theorem dX2_append_81 : decode cX2_append 81 = .ok (.putfield 29, 3) := by decide +kernel
theorem dX2_append_84 : decode cX2_append 84 = .ok (.iinc 4 (-1), 3) := by decide +kernel
theorem dX2_append_87 : decode cX2_append 87 = .ok (.goto (-56), 3) := by decide +kernel
theorem dX2_append_90 : decode cX2_append 90 = .ok (.aload_n 0, 1) := by decide +kernel
theorem dX2_append_91 : decode cX2_append 91 = .ok (.getfield 29, 3) := by decide +kernel
theorem dX2_append_94 : decode cX2_append 94 = .ok (.ireturn, 1) := by decide +kernel
theorem dX2_lengthOf_0 : decode cX2_lengthOf 0 = .ok (.lload_n 0, 1) := by decide +kernel
theorem dX2_lengthOf_1 : decode cX2_lengthOf 1 = .ok (.lstore_n 2, 1) := by decide +kernel
theorem dX2_lengthOf_2 : decode cX2_lengthOf 2 = .ok (.iconst 0, 1) := by decide +kernel
theorem dX2_lengthOf_3 : decode cX2_lengthOf 3 = .ok (.istore 4, 2) := by decide +kernel
theorem dX2_lengthOf_5 : decode cX2_lengthOf 5 = .ok (.iconst 0, 1) := by decide +kernel
theorem dX2_lengthOf_6 : decode cX2_lengthOf 6 = .ok (.istore 5, 2) := by decide +kernel
theorem dX2_lengthOf_8 : decode cX2_lengthOf 8 = .ok (.iload 5, 2) := by decide +kernel
theorem dX2_lengthOf_10 : decode cX2_lengthOf 10 = .ok (.bipush 8, 2) := by decide +kernel
theorem dX2_lengthOf_12 : decode cX2_lengthOf 12 = .ok (.if_icmp .ge 50, 3) := by decide +kernel
theorem dX2_lengthOf_15 : decode cX2_lengthOf 15 = .ok (.lload_n 2, 1) := by decide +kernel
theorem dX2_lengthOf_16 : decode cX2_lengthOf 16 = .ok (.lconst 0, 1) := by decide +kernel
theorem dX2_lengthOf_17 : decode cX2_lengthOf 17 = .ok (.lcmp, 1) := by decide +kernel
theorem dX2_lengthOf_18 : decode cX2_lengthOf 18 = .ok (.ifCond .eq 44, 3) := by decide +kernel
theorem dX2_lengthOf_21 : decode cX2_lengthOf 21 = .ok (.lload_n 2, 1) := by decide +kernel
theorem dX2_lengthOf_22 : decode cX2_lengthOf 22 = .ok (.ldc2_w 33, 3) := by decide +kernel
theorem dX2_lengthOf_25 : decode cX2_lengthOf 25 = .ok (.land, 1) := by decide +kernel
theorem dX2_lengthOf_26 : decode cX2_lengthOf 26 = .ok (.lstore 6, 2) := by decide +kernel
theorem dX2_lengthOf_28 : decode cX2_lengthOf 28 = .ok (.lload 6, 2) := by decide +kernel
theorem dX2_lengthOf_30 : decode cX2_lengthOf 30 = .ok (.ldc2_w 35, 3) := by decide +kernel
theorem dX2_lengthOf_33 : decode cX2_lengthOf 33 = .ok (.lcmp, 1) := by decide +kernel
theorem dX2_lengthOf_34 : decode cX2_lengthOf 34 = .ok (.ifCond .lt 12, 3) := by decide +kernel
theorem dX2_lengthOf_37 : decode cX2_lengthOf 37 = .ok (.lload 6, 2) := by decide +kernel
theorem dX2_lengthOf_39 : decode cX2_lengthOf 39 = .ok (.ldc2_w 37, 3) := by decide +kernel
theorem dX2_lengthOf_42 : decode cX2_lengthOf 42 = .ok (.lcmp, 1) := by decide +kernel
theorem dX2_lengthOf_43 : decode cX2_lengthOf 43 = .ok (.ifCond .le 5, 3) := by decide +kernel
theorem dX2_lengthOf_46 : decode cX2_lengthOf 46 = .ok (.iconst 0, 1) := by decide +kernel
theorem dX2_lengthOf_47 : decode cX2_lengthOf 47 = .ok (.ireturn, 1) := by decide +kernel
theorem dX2_lengthOf_48 : decode cX2_lengthOf 48 = .ok (.iinc 4 1, 3) := by decide +kernel
theorem dX2_lengthOf_51 : decode cX2_lengthOf 51 = .ok (.lload_n 2, 1) := by decide +kernel
theorem dX2_lengthOf_52 : decode cX2_lengthOf 52 = .ok (.bipush 8, 2) := by decide +kernel
theorem dX2_lengthOf_54 : decode cX2_lengthOf 54 = .ok (.lushr, 1) := by decide +kernel
theorem dX2_lengthOf_55 : decode cX2_lengthOf 55 = .ok (.lstore_n 2, 1) := by decide +kernel
theorem dX2_lengthOf_56 : decode cX2_lengthOf 56 = .ok (.iinc 5 1, 3) := by decide +kernel
theorem dX2_lengthOf_59 : decode cX2_lengthOf 59 = .ok (.goto (-51), 3) := by decide +kernel
theorem dX2_lengthOf_62 : decode cX2_lengthOf 62 = .ok (.iload 4, 2) := by decide +kernel
theorem dX2_lengthOf_64 : decode cX2_lengthOf 64 = .ok (.ireturn, 1) := by decide +kernel
theorem dX2_empty_0 : decode cX2_empty 0 = .ok (.aload_n 0, 1) := by decide +kernel
theorem dX2_empty_1 : decode cX2_empty 1 = .ok (.getfield 29, 3) := by decide +kernel
theorem dX2_empty_4 : decode cX2_empty 4 = .ok (.istore_n 1, 1) := by decide +kernel
theorem dX2_empty_5 : decode cX2_empty 5 = .ok (.aload_n 0, 1) := by decide +kernel
theorem dX2_empty_6 : decode cX2_empty 6 = .ok (.iconst 0, 1) := by decide +kernel
theorem dX2_empty_7 : decode cX2_empty 7 = .ok (.putfield 29, 3) := by decide +kernel
theorem dX2_empty_10 : decode cX2_empty 10 = .ok (.iload_n 1, 1) := by decide +kernel
theorem dX2_empty_11 : decode cX2_empty 11 = .ok (.ireturn, 1) := by decide +kernel
set_option maxRecDepth 20000 in
theorem ggX2_scan_X2_scanOrder : GoodIn wsX2_scan wsX2_scanOrder := goodIn_r _ [8, 1, 9, 10, 11, 7, 12, 3, 13, 14, 15, 16, 17, 18, 19, 20, 21, 22, 23, 24, 25, 26, 27, 28, 29, 30, 31, 32, 2, 33, 34, 35, 36, 37, 38, 39, 40, 41, 42] (by decide +kernel) (by decide +kernel)
set_option maxRecDepth 20000 in
theorem gX2_scan_X2_scanOrder : GoodIn wsX2_scan (wsV RX2 45 RX2 yX2_scanOrder wsX2_scanOrder) := goodIn_app (goodIn_of _ (by decide +kernel)) ggX2_scan_X2_scanOrder
set_option maxRecDepth 20000 in
theorem ggX2_scan_X2_scanSign : GoodIn wsX2_scan wsX2_scanSign := goodIn_r _ [28, 1, 9, 10, 11, 7, 12, 3, 13, 36, 37, 38, 39, 40, 41, 42] (by decide +kernel) (by decide +kernel)
set_option maxRecDepth 20000 in
theorem gX2_scan_X2_scanSign : GoodIn wsX2_scan (wsV RX2 49 RX2 yX2_scanSign wsX2_scanSign) := goodIn_app (goodIn_of _ (by decide +kernel)) ggX2_scan_X2_scanSign
theorem dX2_scan_0 : decode cX2_scan 0 = .ok (.aload_n 0, 1) := by decide +kernel
theorem dX2_scan_1 : decode cX2_scan 1 = .ok (.iconst 0, 1) := by decide +kernel
theorem dX2_scan_2 : decode cX2_scan 2 = .ok (.putfield 39, 3) := by decide +kernel
theorem dX2_scan_5 : decode cX2_scan 5 = .ok (.aload_n 0, 1) := by decide +kernel
theorem dX2_scan_6 : decode cX2_scan 6 = .ok (.iconst 0, 1) := by decide +kernel
theorem dX2_scan_7 : decode cX2_scan 7 = .ok (.putfield 42, 3) := by decide +kernel
theorem dX2_scan_10 : decode cX2_scan 10 = .ok (.aload_n 0, 1) := by decide +kernel
theorem dX2_scan_11 : decode cX2_scan 11 = .ok (.invokevirtual 45, 3) := by decide +kernel
theorem dX2_scan_14 : decode cX2_scan 14 = .ok (.istore_n 1, 1) := by decide +kernel
theorem dX2_scan_15 : decode cX2_scan 15 = .ok (.iconst 0, 1) := by decide +kernel
theorem dX2_scan_16 : decode cX2_scan 16 = .ok (.istore_n 2, 1) := by decide +kernel
theorem dX2_scan_17 : decode cX2_scan 17 = .ok (.iload_n 2, 1) := by decide +kernel
theorem dX2_scan_18 : decode cX2_scan 18 = .ok (.bipush 80, 2) := by decide +kernel
theorem dX2_scan_20 : decode cX2_scan 20 = .ok (.if_icmp .ge 46, 3) := by decide +kernel
theorem dX2_scan_23 : decode cX2_scan 23 = .ok (.iload_n 1, 1) := by decide +kernel
theorem dX2_scan_24 : decode cX2_scan 24 = .ok (.ifCond .eq 42, 3) := by decide +kernel
theorem dX2_scan_27 : decode cX2_scan 27 = .ok (.aload_n 0, 1) := by decide +kernel
theorem dX2_scan_28 : decode cX2_scan 28 = .ok (.getfield 39, 3) := by decide +kernel
theorem dX2_scan_31 : decode cX2_scan 31 = .ok (.aload_n 0, 1) := by decide +kernel
theorem dX2_scan_32 : decode cX2_scan 32 = .ok (.getfield 29, 3) := by decide +kernel
theorem dX2_scan_35 : decode cX2_scan 35 = .ok (.if_icmp .ge 31, 3) := by decide +kernel
theorem dX2_scan_38 : decode cX2_scan 38 = .ok (.aload_n 0, 1) := by decide +kernel
theorem dX2_scan_39 : decode cX2_scan 39 = .ok (.bipush 59, 2) := by decide +kernel
theorem dX2_scan_41 : decode cX2_scan 41 = .ok (.invokevirtual 49, 3) := by decide +kernel
theorem dX2_scan_44 : decode cX2_scan 44 = .ok (.ifCond .eq 14, 3) := by decide +kernel
theorem dX2_scan_47 : decode cX2_scan 47 = .ok (.aload_n 0, 1) := by decide +kernel
theorem dX2_scan_48 : decode cX2_scan 48 = .ok (.invokevirtual 45, 3) := by decide +kernel
theorem dX2_scan_51 : decode cX2_scan 51 = .ok (.ifCond .eq 7, 3) := by decide +kernel
theorem dX2_scan_54 : decode cX2_scan 54 = .ok (.iconst 1, 1) := by decide +kernel
theorem dX2_scan_55 : decode cX2_scan 55 = .ok (.goto 4, 3) := by decide +kernel
theorem dX2_scan_58 : decode cX2_scan 58 = .ok (.iconst 0, 1) := by decide +kernel
theorem dX2_scan_59 : decode cX2_scan 59 = .ok (.istore_n 1, 1) := by decide +kernel
theorem dX2_scan_60 : decode cX2_scan 60 = .ok (.iinc 2 1, 3) := by decide +kernel
theorem dX2_scan_63 : decode cX2_scan 63 = .ok (.goto (-46), 3) := by decide +kernel
theorem dX2_scan_66 : decode cX2_scan 66 = .ok (.iload_n 1, 1) := by decide +kernel
theorem dX2_scan_67 : decode cX2_scan 67 = .ok (.ifCond .eq 8, 3) := by decide +kernel
theorem dX2_scan_70 : decode cX2_scan 70 = .ok (.bipush (-6), 2) := by decide +kernel
theorem dX2_scan_72 : decode cX2_scan 72 = .ok (.goto 7, 3) := by decide +kernel
theorem dX2_scan_75 : decode cX2_scan 75 = .ok (.aload_n 0, 1) := by decide +kernel
theorem dX2_scan_76 : decode cX2_scan 76 = .ok (.getfield 39, 3) := by decide +kernel
theorem dX2_scan_79 : decode cX2_scan 79 = .ok (.ireturn, 1) := by decide +kernel
set_option maxRecDepth 20000 in
theorem ggX2_scanOrder_X2_signAt : GoodIn wsX2_scanOrder wsX2_signAt := goodIn_r _ [6, 1, 7, 8, 32, 33, 34, 35, 36, 37, 38] (by decide +kernel) (by decide +kernel)
set_option maxRecDepth 20000 in
theorem gX2_scanOrder_X2_signAt : GoodIn wsX2_scanOrder (wsV RX2 53 RX2 yX2_signAt wsX2_signAt) := goodIn_app (goodIn_of _ (by decide +kernel)) ggX2_scanOrder_X2_signAt
set_option maxRecDepth 20000 in
theorem ggX2_scanOrder_X2_isVerb : GoodIn wsX2_scanOrder wsX2_isVerb := goodIn_r _ [11] (by decide +kernel) (by decide +kernel)
set_option maxRecDepth 20000 in
theorem gX2_scanOrder_X2_isVerb : GoodIn wsX2_scanOrder (va_wsS RX2 57 yX2_isVerb wsX2_isVerb) := goodIn_app (goodIn_of _ (by decide +kernel)) ggX2_scanOrder_X2_isVerb
set_option maxRecDepth 20000 in
theorem ggX2_scanOrder_X2_scanNumber : GoodIn wsX2_scanOrder wsX2_scanNumber := goodIn_r _ [15, 1, 16, 17, 18, 5, 19, 2, 3, 4, 6, 7, 8, 32, 33, 34, 35, 36, 37, 38] (by decide +kernel) (by decide +kernel)
set_option maxRecDepth 20000 in
theorem gX2_scanOrder_X2_scanNumber : GoodIn wsX2_scanOrder (wsV RX2 60 RX2 yX2_scanNumber wsX2_scanNumber) := goodIn_app (goodIn_of _ (by decide +kernel)) ggX2_scanOrder_X2_scanNumber
set_option maxRecDepth 20000 in
theorem ggX2_scanOrder_X2_scanSign : GoodIn wsX2_scanOrder wsX2_scanSign := goodIn_r _ [23, 1, 2, 3, 4, 5, 6, 7, 8, 32, 33, 34, 35, 36, 37, 38] (by decide +kernel) (by decide +kernel)
set_option maxRecDepth 20000 in
theorem gX2_scanOrder_X2_scanSign : GoodIn wsX2_scanOrder (wsV RX2 49 RX2 yX2_scanSign wsX2_scanSign) := goodIn_app (goodIn_of _ (by decide +kernel)) ggX2_scanOrder_X2_scanSign
set_option maxRecDepth 20000 in
theorem ggX2_scanOrder_X2_scanDigit : GoodIn wsX2_scanOrder wsX2_scanDigit := goodIn_r _ [19, 1, 2, 3, 4, 5, 6, 7, 8, 32, 33, 34, 35, 36, 37, 38] (by decide +kernel) (by decide +kernel)
set_option maxRecDepth 20000 in
theorem gX2_scanOrder_X2_scanDigit : GoodIn wsX2_scanOrder (wsV RX2 63 RX2 yX2_scanDigit wsX2_scanDigit) := goodIn_app (goodIn_of _ (by decide +kernel)) ggX2_scanOrder_X2_scanDigit
set_option maxRecDepth 20000 in
theorem ggX2_scanOrder_X2_note : GoodIn wsX2_scanOrder wsX2_note := goodIn_r _ [27, 28, 29, 30, 31, 32, 33, 34, 35, 36, 37, 38] (by decide +kernel) (by decide +kernel)
set_option maxRecDepth 20000 in
theorem gX2_scanOrder_X2_note : GoodIn wsX2_scanOrder (wsV RX2 67 RX2 yX2_note wsX2_note) := goodIn_app (goodIn_of _ (by decide +kernel)) ggX2_scanOrder_X2_note
theorem dX2_scanOrder_0 : decode cX2_scanOrder 0 = .ok (.aload_n 0, 1) := by decide +kernel
theorem dX2_scanOrder_1 : decode cX2_scanOrder 1 = .ok (.invokevirtual 53, 3) := by decide +kernel
theorem dX2_scanOrder_4 : decode cX2_scanOrder 4 = .ok (.istore_n 1, 1) := by decide +kernel
theorem dX2_scanOrder_5 : decode cX2_scanOrder 5 = .ok (.iload_n 1, 1) := by decide +kernel
theorem dX2_scanOrder_6 : decode cX2_scanOrder 6 = .ok (.invokestatic 57, 3) := by decide +kernel
theorem dX2_scanOrder_9 : decode cX2_scanOrder 9 = .ok (.ifCond .ne 5, 3) := by decide +kernel
theorem dX2_scanOrder_12 : decode cX2_scanOrder 12 = .ok (.iconst 0, 1) := by decide +kernel
theorem dX2_scanOrder_13 : decode cX2_scanOrder 13 = .ok (.ireturn, 1) := by decide +kernel
theorem dX2_scanOrder_14 : decode cX2_scanOrder 14 = .ok (.aload_n 0, 1) := by decide +kernel
theorem dX2_scanOrder_15 : decode cX2_scanOrder 15 = .ok (.dup, 1) := by decide +kernel
theorem dX2_scanOrder_16 : decode cX2_scanOrder 16 = .ok (.getfield 39, 3) := by decide +kernel
theorem dX2_scanOrder_19 : decode cX2_scanOrder 19 = .ok (.iconst 1, 1) := by decide +kernel
theorem dX2_scanOrder_20 : decode cX2_scanOrder 20 = .ok (.iadd, 1) := by decide +kernel
theorem dX2_scanOrder_21 : decode cX2_scanOrder 21 = .ok (.putfield 39, 3) := by decide +kernel
theorem dX2_scanOrder_24 : decode cX2_scanOrder 24 = .ok (.iconst 0, 1) := by decide +kernel
theorem dX2_scanOrder_25 : decode cX2_scanOrder 25 = .ok (.istore_n 2, 1) := by decide +kernel
theorem dX2_scanOrder_26 : decode cX2_scanOrder 26 = .ok (.iconst 0, 1) := by decide +kernel
theorem dX2_scanOrder_27 : decode cX2_scanOrder 27 = .ok (.istore_n 3, 1) := by decide +kernel
theorem dX2_scanOrder_28 : decode cX2_scanOrder 28 = .ok (.iload_n 1, 1) := by decide +kernel
theorem dX2_scanOrder_29 : decode cX2_scanOrder 29 = .ok (.lookupswitch 129 #[(33, 82), (114, 74), (119, 43), (120, 106)], 43) := by decide +kernel
theorem dX2_scanOrder_72 : decode cX2_scanOrder 72 = .ok (.aload_n 0, 1) := by decide +kernel
theorem dX2_scanOrder_73 : decode cX2_scanOrder 73 = .ok (.invokevirtual 60, 3) := by decide +kernel
theorem dX2_scanOrder_76 : decode cX2_scanOrder 76 = .ok (.istore_n 2, 1) := by decide +kernel
theorem dX2_scanOrder_77 : decode cX2_scanOrder 77 = .ok (.iload_n 2, 1) := by decide +kernel
theorem dX2_scanOrder_78 : decode cX2_scanOrder 78 = .ok (.iconst (-1), 1) := by decide +kernel
theorem dX2_scanOrder_79 : decode cX2_scanOrder 79 = .ok (.if_icmp .eq 19, 3) := by decide +kernel
theorem dX2_scanOrder_82 : decode cX2_scanOrder 82 = .ok (.aload_n 0, 1) := by decide +kernel
theorem dX2_scanOrder_83 : decode cX2_scanOrder 83 = .ok (.bipush 61, 2) := by decide +kernel
theorem dX2_scanOrder_85 : decode cX2_scanOrder 85 = .ok (.invokevirtual 49, 3) := by decide +kernel
theorem dX2_scanOrder_88 : decode cX2_scanOrder 88 = .ok (.ifCond .eq 10, 3) := by decide +kernel
theorem dX2_scanOrder_91 : decode cX2_scanOrder 91 = .ok (.aload_n 0, 1) := by decide +kernel
theorem dX2_scanOrder_92 : decode cX2_scanOrder 92 = .ok (.invokevirtual 60, 3) := by decide +kernel
theorem dX2_scanOrder_95 : decode cX2_scanOrder 95 = .ok (.goto 4, 3) := by decide +kernel
theorem dX2_scanOrder_98 : decode cX2_scanOrder 98 = .ok (.iconst (-1), 1) := by decide +kernel
theorem dX2_scanOrder_99 : decode cX2_scanOrder 99 = .ok (.istore_n 3, 1) := by decide +kernel
theorem dX2_scanOrder_100 : decode cX2_scanOrder 100 = .ok (.goto 58, 3) := by decide +kernel
theorem dX2_scanOrder_103 : decode cX2_scanOrder 103 = .ok (.aload_n 0, 1) := by decide +kernel
theorem dX2_scanOrder_104 : decode cX2_scanOrder 104 = .ok (.invokevirtual 60, 3) := by decide +kernel
theorem dX2_scanOrder_107 : decode cX2_scanOrder 107 = .ok (.istore_n 3, 1) := by decide +kernel
theorem dX2_scanOrder_108 : decode cX2_scanOrder 108 = .ok (.goto 50, 3) := by decide +kernel
theorem dX2_scanOrder_111 : decode cX2_scanOrder 111 = .ok (.aload_n 0, 1) := by decide +kernel
theorem dX2_scanOrder_112 : decode cX2_scanOrder 112 = .ok (.iconst 1, 1) := by decide +kernel
theorem dX2_scanOrder_113 : decode cX2_scanOrder 113 = .ok (.invokevirtual 63, 3) := by decide +kernel
theorem dX2_scanOrder_116 : decode cX2_scanOrder 116 = .ok (.istore_n 2, 1) := by decide +kernel
theorem dX2_scanOrder_117 : decode cX2_scanOrder 117 = .ok (.iload_n 2, 1) := by decide +kernel
theorem dX2_scanOrder_118 : decode cX2_scanOrder 118 = .ok (.iconst (-1), 1) := by decide +kernel
theorem dX2_scanOrder_119 : decode cX2_scanOrder 119 = .ok (.if_icmp .eq 11, 3) := by decide +kernel
theorem dX2_scanOrder_122 : decode cX2_scanOrder 122 = .ok (.aload_n 0, 1) := by decide +kernel
theorem dX2_scanOrder_123 : decode cX2_scanOrder 123 = .ok (.iconst 4, 1) := by decide +kernel
theorem dX2_scanOrder_124 : decode cX2_scanOrder 124 = .ok (.invokevirtual 63, 3) := by decide +kernel
theorem dX2_scanOrder_127 : decode cX2_scanOrder 127 = .ok (.goto 4, 3) := by decide +kernel
theorem dX2_scanOrder_130 : decode cX2_scanOrder 130 = .ok (.iconst (-1), 1) := by decide +kernel
theorem dX2_scanOrder_131 : decode cX2_scanOrder 131 = .ok (.istore_n 3, 1) := by decide +kernel
theorem dX2_scanOrder_132 : decode cX2_scanOrder 132 = .ok (.goto 26, 3) := by decide +kernel
theorem dX2_scanOrder_135 : decode cX2_scanOrder 135 = .ok (.aload_n 0, 1) := by decide +kernel
theorem dX2_scanOrder_136 : decode cX2_scanOrder 136 = .ok (.iconst 1, 1) := by decide +kernel
theorem dX2_scanOrder_137 : decode cX2_scanOrder 137 = .ok (.invokevirtual 63, 3) := by decide +kernel
theorem dX2_scanOrder_140 : decode cX2_scanOrder 140 = .ok (.istore_n 2, 1) := by decide +kernel
theorem dX2_scanOrder_141 : decode cX2_scanOrder 141 = .ok (.iload_n 2, 1) := by decide +kernel
theorem dX2_scanOrder_142 : decode cX2_scanOrder 142 = .ok (.iconst (-1), 1) := by decide +kernel
theorem dX2_scanOrder_143 : decode cX2_scanOrder 143 = .ok (.if_icmp .eq 10, 3) := by decide +kernel
theorem dX2_scanOrder_146 : decode cX2_scanOrder 146 = .ok (.aload_n 0, 1) := by decide +kernel
theorem dX2_scanOrder_147 : decode cX2_scanOrder 147 = .ok (.invokevirtual 60, 3) := by decide +kernel
theorem dX2_scanOrder_150 : decode cX2_scanOrder 150 = .ok (.goto 4, 3) := by decide +kernel
theorem dX2_scanOrder_153 : decode cX2_scanOrder 153 = .ok (.iconst (-1), 1) := by decide +kernel
theorem dX2_scanOrder_154 : decode cX2_scanOrder 154 = .ok (.istore_n 3, 1) := by decide +kernel
theorem dX2_scanOrder_155 : decode cX2_scanOrder 155 = .ok (.goto 3, 3) := by decide +kernel
theorem dX2_scanOrder_158 : decode cX2_scanOrder 158 = .ok (.iload_n 3, 1) := by decide +kernel
theorem dX2_scanOrder_159 : decode cX2_scanOrder 159 = .ok (.iconst (-1), 1) := by decide +kernel
theorem dX2_scanOrder_160 : decode cX2_scanOrder 160 = .ok (.if_icmp .eq 17, 3) := by decide +kernel
theorem dX2_scanOrder_163 : decode cX2_scanOrder 163 = .ok (.aload_n 0, 1) := by decide +kernel
theorem dX2_scanOrder_164 : decode cX2_scanOrder 164 = .ok (.iload_n 1, 1) := by decide +kernel
theorem dX2_scanOrder_165 : decode cX2_scanOrder 165 = .ok (.iload_n 2, 1) := by decide +kernel
theorem dX2_scanOrder_166 : decode cX2_scanOrder 166 = .ok (.iload_n 3, 1) := by decide +kernel
theorem dX2_scanOrder_167 : decode cX2_scanOrder 167 = .ok (.invokevirtual 67, 3) := by decide +kernel
theorem dX2_scanOrder_170 : decode cX2_scanOrder 170 = .ok (.ifCond .eq 7, 3) := by decide +kernel
theorem dX2_scanOrder_173 : decode cX2_scanOrder 173 = .ok (.iconst 1, 1) := by decide +kernel
theorem dX2_scanOrder_174 : decode cX2_scanOrder 174 = .ok (.goto 4, 3) := by decide +kernel
theorem dX2_scanOrder_177 : decode cX2_scanOrder 177 = .ok (.iconst 0, 1) := by decide +kernel
theorem dX2_scanOrder_178 : decode cX2_scanOrder 178 = .ok (.ireturn, 1) := by decide +kernel
theorem dX2_isVerb_0 : decode cX2_isVerb 0 = .ok (.iload_n 0, 1) := by decide +kernel
theorem dX2_isVerb_1 : decode cX2_isVerb 1 = .ok (.bipush 119, 2) := by decide +kernel
theorem dX2_isVerb_3 : decode cX2_isVerb 3 = .ok (.if_icmp .eq 27, 3) := by decide +kernel
theorem dX2_isVerb_6 : decode cX2_isVerb 6 = .ok (.iload_n 0, 1) := by decide +kernel
theorem dX2_isVerb_7 : decode cX2_isVerb 7 = .ok (.bipush 114, 2) := by decide +kernel
theorem dX2_isVerb_9 : decode cX2_isVerb 9 = .ok (.if_icmp .eq 21, 3) := by decide +kernel
theorem dX2_isVerb_12 : decode cX2_isVerb 12 = .ok (.iload_n 0, 1) := by decide +kernel
theorem dX2_isVerb_13 : decode cX2_isVerb 13 = .ok (.bipush 33, 2) := by decide +kernel
theorem dX2_isVerb_15 : decode cX2_isVerb 15 = .ok (.if_icmp .eq 15, 3) := by decide +kernel
theorem dX2_isVerb_18 : decode cX2_isVerb 18 = .ok (.iload_n 0, 1) := by decide +kernel
theorem dX2_isVerb_19 : decode cX2_isVerb 19 = .ok (.bipush 120, 2) := by decide +kernel
theorem dX2_isVerb_21 : decode cX2_isVerb 21 = .ok (.if_icmp .eq 9, 3) := by decide +kernel
theorem dX2_isVerb_24 : decode cX2_isVerb 24 = .ok (.iload_n 0, 1) := by decide +kernel
theorem dX2_isVerb_25 : decode cX2_isVerb 25 = .ok (.bipush 115, 2) := by decide +kernel
theorem dX2_isVerb_27 : decode cX2_isVerb 27 = .ok (.if_icmp .ne 7, 3) := by decide +kernel
theorem dX2_isVerb_30 : decode cX2_isVerb 30 = .ok (.iconst 1, 1) := by decide +kernel
theorem dX2_isVerb_31 : decode cX2_isVerb 31 = .ok (.goto 4, 3) := by decide +kernel
theorem dX2_isVerb_34 : decode cX2_isVerb 34 = .ok (.iconst 0, 1) := by decide +kernel
theorem dX2_isVerb_35 : decode cX2_isVerb 35 = .ok (.ireturn, 1) := by decide +kernel
theorem dX2_note_0 : decode cX2_note 0 = .ok (.aload_n 0, 1) := by decide +kernel
theorem dX2_note_1 : decode cX2_note 1 = .ok (.getfield 42, 3) := by decide +kernel
theorem dX2_note_4 : decode cX2_note 4 = .ok (.ifCond .lt 12, 3) := by decide +kernel
theorem dX2_note_7 : decode cX2_note 7 = .ok (.aload_n 0, 1) := by decide +kernel
theorem dX2_note_8 : decode cX2_note 8 = .ok (.getfield 42, 3) := by decide +kernel
theorem dX2_note_11 : decode cX2_note 11 = .ok (.bipush 40, 2) := by decide +kernel
theorem dX2_note_13 : decode cX2_note 13 = .ok (.if_icmp .lt 5, 3) := by decide +kernel
theorem dX2_note_16 : decode cX2_note 16 = .ok (.iconst 0, 1) := by decide +kernel
theorem dX2_note_17 : decode cX2_note 17 = .ok (.ireturn, 1) := by decide +kernel
theorem dX2_note_18 : decode cX2_note 18 = .ok (.aload_n 0, 1) := by decide +kernel
theorem dX2_note_19 : decode cX2_note 19 = .ok (.getfield 15, 3) := by decide +kernel
theorem dX2_note_22 : decode cX2_note 22 = .ok (.aload_n 0, 1) := by decide +kernel
theorem dX2_note_23 : decode cX2_note 23 = .ok (.getfield 42, 3) := by decide +kernel
theorem dX2_note_26 : decode cX2_note 26 = .ok (.iload_n 1, 1) := by decide +kernel
theorem dX2_note_27 : decode cX2_note 27 = .ok (.iastore, 1) := by decide +kernel
theorem dX2_note_28 : decode cX2_note 28 = .ok (.aload_n 0, 1) := by decide +kernel
theorem dX2_note_29 : decode cX2_note 29 = .ok (.getfield 19, 3) := by decide +kernel
theorem dX2_note_32 : decode cX2_note 32 = .ok (.aload_n 0, 1) := by decide +kernel
theorem dX2_note_33 : decode cX2_note 33 = .ok (.getfield 42, 3) := by decide +kernel
theorem dX2_note_36 : decode cX2_note 36 = .ok (.iload_n 2, 1) := by decide +kernel
theorem dX2_note_37 : decode cX2_note 37 = .ok (.iastore, 1) := by decide +kernel
theorem dX2_note_38 : decode cX2_note 38 = .ok (.aload_n 0, 1) := by decide +kernel
theorem dX2_note_39 : decode cX2_note 39 = .ok (.getfield 22, 3) := by decide +kernel
theorem dX2_note_42 : decode cX2_note 42 = .ok (.aload_n 0, 1) := by decide +kernel
theorem dX2_note_43 : decode cX2_note 43 = .ok (.getfield 42, 3) := by decide +kernel
theorem dX2_note_46 : decode cX2_note 46 = .ok (.iload_n 3, 1) := by decide +kernel
theorem dX2_note_47 : decode cX2_note 47 = .ok (.iastore, 1) := by decide +kernel
theorem dX2_note_48 : decode cX2_note 48 = .ok (.aload_n 0, 1) := by decide +kernel
theorem dX2_note_49 : decode cX2_note 49 = .ok (.dup, 1) := by decide +kernel
theorem dX2_note_50 : decode cX2_note 50 = .ok (.getfield 42, 3) := by decide +kernel
theorem dX2_note_53 : decode cX2_note 53 = .ok (.iconst 1, 1) := by decide +kernel
theorem dX2_note_54 : decode cX2_note 54 = .ok (.iadd, 1) := by decide +kernel
theorem dX2_note_55 : decode cX2_note 55 = .ok (.putfield 42, 3) := by decide +kernel
theorem dX2_note_58 : decode cX2_note 58 = .ok (.iconst 1, 1) := by decide +kernel
theorem dX2_note_59 : decode cX2_note 59 = .ok (.ireturn, 1) := by decide +kernel
theorem dX2_signAt_0 : decode cX2_signAt 0 = .ok (.aload_n 0, 1) := by decide +kernel
theorem dX2_signAt_1 : decode cX2_signAt 1 = .ok (.getfield 39, 3) := by decide +kernel
theorem dX2_signAt_4 : decode cX2_signAt 4 = .ok (.ifCond .lt 35, 3) := by decide +kernel
theorem dX2_signAt_7 : decode cX2_signAt 7 = .ok (.aload_n 0, 1) := by decide +kernel
theorem dX2_signAt_8 : decode cX2_signAt 8 = .ok (.getfield 39, 3) := by decide +kernel
theorem dX2_signAt_11 : decode cX2_signAt 11 = .ok (.aload_n 0, 1) := by decide +kernel
theorem dX2_signAt_12 : decode cX2_signAt 12 = .ok (.getfield 29, 3) := by decide +kernel
theorem dX2_signAt_15 : decode cX2_signAt 15 = .ok (.if_icmp .ge 24, 3) := by decide +kernel
theorem dX2_signAt_18 : decode cX2_signAt 18 = .ok (.aload_n 0, 1) := by decide +kernel
theorem dX2_signAt_19 : decode cX2_signAt 19 = .ok (.getfield 39, 3) := by decide +kernel
theorem dX2_signAt_22 : decode cX2_signAt 22 = .ok (.bipush 80, 2) := by decide +kernel
theorem dX2_signAt_24 : decode cX2_signAt 24 = .ok (.if_icmp .ge 15, 3) := by decide +kernel
theorem dX2_signAt_27 : decode cX2_signAt 27 = .ok (.aload_n 0, 1) := by decide +kernel
theorem dX2_signAt_28 : decode cX2_signAt 28 = .ok (.getfield 9, 3) := by decide +kernel
theorem dX2_signAt_31 : decode cX2_signAt 31 = .ok (.aload_n 0, 1) := by decide +kernel
theorem dX2_signAt_32 : decode cX2_signAt 32 = .ok (.getfield 39, 3) := by decide +kernel
theorem dX2_signAt_35 : decode cX2_signAt 35 = .ok (.caload, 1) := by decide +kernel
theorem dX2_signAt_36 : decode cX2_signAt 36 = .ok (.goto 4, 3) := by decide +kernel
theorem dX2_signAt_39 : decode cX2_signAt 39 = .ok (.iconst 0, 1) := by decide +kernel
theorem dX2_signAt_40 : decode cX2_signAt 40 = .ok (.ireturn, 1) := by decide +kernel
set_option maxRecDepth 20000 in
theorem ggX2_scanSign_X2_signAt : GoodIn wsX2_scanSign wsX2_signAt := goodIn_r _ [6, 1, 7, 8, 9, 10, 11, 12, 13, 14, 15] (by decide +kernel) (by decide +kernel)
set_option maxRecDepth 20000 in
theorem gX2_scanSign_X2_signAt : GoodIn wsX2_scanSign (wsV RX2 53 RX2 yX2_signAt wsX2_signAt) := goodIn_app (goodIn_of _ (by decide +kernel)) ggX2_scanSign_X2_signAt
theorem dX2_scanSign_0 : decode cX2_scanSign 0 = .ok (.aload_n 0, 1) := by decide +kernel
theorem dX2_scanSign_1 : decode cX2_scanSign 1 = .ok (.invokevirtual 53, 3) := by decide +kernel
theorem dX2_scanSign_4 : decode cX2_scanSign 4 = .ok (.iload_n 1, 1) := by decide +kernel
theorem dX2_scanSign_5 : decode cX2_scanSign 5 = .ok (.if_icmp .eq 5, 3) := by decide +kernel
theorem dX2_scanSign_8 : decode cX2_scanSign 8 = .ok (.iconst 0, 1) := by decide +kernel
theorem dX2_scanSign_9 : decode cX2_scanSign 9 = .ok (.ireturn, 1) := by decide +kernel
theorem dX2_scanSign_10 : decode cX2_scanSign 10 = .ok (.aload_n 0, 1) := by decide +kernel
theorem dX2_scanSign_11 : decode cX2_scanSign 11 = .ok (.dup, 1) := by decide +kernel
theorem dX2_scanSign_12 : decode cX2_scanSign 12 = .ok (.getfield 39, 3) := by decide +kernel
theorem dX2_scanSign_15 : decode cX2_scanSign 15 = .ok (.iconst 1, 1) := by decide +kernel
theorem dX2_scanSign_16 : decode cX2_scanSign 16 = .ok (.iadd, 1) := by decide +kernel
theorem dX2_scanSign_17 : decode cX2_scanSign 17 = .ok (.putfield 39, 3) := by decide +kernel
theorem dX2_scanSign_20 : decode cX2_scanSign 20 = .ok (.iconst 1, 1) := by decide +kernel
theorem dX2_scanSign_21 : decode cX2_scanSign 21 = .ok (.ireturn, 1) := by decide +kernel
set_option maxRecDepth 20000 in
theorem ggX2_scanDigit_X2_signAt : GoodIn wsX2_scanDigit wsX2_signAt := goodIn_r _ [6, 1, 7, 8, 9, 10, 11, 12, 13, 14, 15] (by decide +kernel) (by decide +kernel)
set_option maxRecDepth 20000 in
theorem gX2_scanDigit_X2_signAt : GoodIn wsX2_scanDigit (wsV RX2 53 RX2 yX2_signAt wsX2_signAt) := goodIn_app (goodIn_of _ (by decide +kernel)) ggX2_scanDigit_X2_signAt
theorem dX2_scanDigit_0 : decode cX2_scanDigit 0 = .ok (.aload_n 0, 1) := by decide +kernel
theorem dX2_scanDigit_1 : decode cX2_scanDigit 1 = .ok (.invokevirtual 53, 3) := by decide +kernel
theorem dX2_scanDigit_4 : decode cX2_scanDigit 4 = .ok (.bipush 48, 2) := by decide +kernel
theorem dX2_scanDigit_6 : decode cX2_scanDigit 6 = .ok (.isub, 1) := by decide +kernel
theorem dX2_scanDigit_7 : decode cX2_scanDigit 7 = .ok (.istore_n 2, 1) := by decide +kernel
theorem dX2_scanDigit_8 : decode cX2_scanDigit 8 = .ok (.iload_n 2, 1) := by decide +kernel
theorem dX2_scanDigit_9 : decode cX2_scanDigit 9 = .ok (.ifCond .lt 8, 3) := by decide +kernel
theorem dX2_scanDigit_12 : decode cX2_scanDigit 12 = .ok (.iload_n 2, 1) := by decide +kernel
theorem dX2_scanDigit_13 : decode cX2_scanDigit 13 = .ok (.iload_n 1, 1) := by decide +kernel
theorem dX2_scanDigit_14 : decode cX2_scanDigit 14 = .ok (.if_icmp .le 5, 3) := by decide +kernel
theorem dX2_scanDigit_17 : decode cX2_scanDigit 17 = .ok (.iconst (-1), 1) := by decide +kernel
theorem dX2_scanDigit_18 : decode cX2_scanDigit 18 = .ok (.ireturn, 1) := by decide +kernel
theorem dX2_scanDigit_19 : decode cX2_scanDigit 19 = .ok (.aload_n 0, 1) := by decide +kernel
theorem dX2_scanDigit_20 : decode cX2_scanDigit 20 = .ok (.dup, 1) := by decide +kernel
theorem dX2_scanDigit_21 : decode cX2_scanDigit 21 = .ok (.getfield 39, 3) := by decide +kernel
theorem dX2_scanDigit_24 : decode cX2_scanDigit 24 = .ok (.iconst 1, 1) := by decide +kernel
theorem dX2_scanDigit_25 : decode cX2_scanDigit 25 = .ok (.iadd, 1) := by decide +kernel
theorem dX2_scanDigit_26 : decode cX2_scanDigit 26 = .ok (.putfield 39, 3) := by decide +kernel
theorem dX2_scanDigit_29 : decode cX2_scanDigit 29 = .ok (.iload_n 2, 1) := by decide +kernel
theorem dX2_scanDigit_30 : decode cX2_scanDigit 30 = .ok (.ireturn, 1) := by decide +kernel
set_option maxRecDepth 20000 in
theorem ggX2_scanNumber_X2_scanDigit : GoodIn wsX2_scanNumber wsX2_scanDigit := goodIn_r _ [6, 1, 7, 8, 9, 5, 10, 11, 12, 13, 14, 15, 16, 17, 18, 19] (by decide +kernel) (by decide +kernel)
set_option maxRecDepth 20000 in
theorem gX2_scanNumber_X2_scanDigit : GoodIn wsX2_scanNumber (wsV RX2 63 RX2 yX2_scanDigit wsX2_scanDigit) := goodIn_app (goodIn_of _ (by decide +kernel)) ggX2_scanNumber_X2_scanDigit
set_option maxRecDepth 20000 in
theorem ggX2_scanNumber_X2_signAt : GoodIn wsX2_scanNumber wsX2_signAt := goodIn_r _ [10, 1, 11, 12, 13, 14, 15, 16, 17, 18, 19] (by decide +kernel) (by decide +kernel)
set_option maxRecDepth 20000 in
theorem gX2_scanNumber_X2_signAt : GoodIn wsX2_scanNumber (wsV RX2 53 RX2 yX2_signAt wsX2_signAt) := goodIn_app (goodIn_of _ (by decide +kernel)) ggX2_scanNumber_X2_signAt
theorem dX2_scanNumber_0 : decode cX2_scanNumber 0 = .ok (.aload_n 0, 1) := by decide +kernel
theorem dX2_scanNumber_1 : decode cX2_scanNumber 1 = .ok (.bipush 9, 2) := by decide +kernel
theorem dX2_scanNumber_3 : decode cX2_scanNumber 3 = .ok (.invokevirtual 63, 3) := by decide +kernel
theorem dX2_scanNumber_6 : decode cX2_scanNumber 6 = .ok (.istore_n 1, 1) := by decide +kernel
theorem dX2_scanNumber_7 : decode cX2_scanNumber 7 = .ok (.iconst 0, 1) := by decide +kernel
theorem dX2_scanNumber_8 : decode cX2_scanNumber 8 = .ok (.istore_n 2, 1) := by decide +kernel
theorem dX2_scanNumber_9 : decode cX2_scanNumber 9 = .ok (.iload_n 2, 1) := by decide +kernel
theorem dX2_scanNumber_10 : decode cX2_scanNumber 10 = .ok (.iconst 4, 1) := by decide +kernel
theorem dX2_scanNumber_11 : decode cX2_scanNumber 11 = .ok (.if_icmp .ge 63, 3) := by decide +kernel
theorem dX2_scanNumber_14 : decode cX2_scanNumber 14 = .ok (.iload_n 1, 1) := by decide +kernel
theorem dX2_scanNumber_15 : decode cX2_scanNumber 15 = .ok (.ifCond .le 59, 3) := by decide +kernel
theorem dX2_scanNumber_18 : decode cX2_scanNumber 18 = .ok (.aload_n 0, 1) := by decide +kernel
theorem dX2_scanNumber_19 : decode cX2_scanNumber 19 = .ok (.invokevirtual 53, 3) := by decide +kernel
theorem dX2_scanNumber_22 : decode cX2_scanNumber 22 = .ok (.bipush 48, 2) := by decide +kernel
theorem dX2_scanNumber_24 : decode cX2_scanNumber 24 = .ok (.isub, 1) := by decide +kernel
theorem dX2_scanNumber_25 : decode cX2_scanNumber 25 = .ok (.istore_n 3, 1) := by decide +kernel
theorem dX2_scanNumber_26 : decode cX2_scanNumber 26 = .ok (.iload_n 3, 1) := by decide +kernel
theorem dX2_scanNumber_27 : decode cX2_scanNumber 27 = .ok (.ifCond .lt 47, 3) := by decide +kernel
theorem dX2_scanNumber_30 : decode cX2_scanNumber 30 = .ok (.iload_n 3, 1) := by decide +kernel
theorem dX2_scanNumber_31 : decode cX2_scanNumber 31 = .ok (.bipush 9, 2) := by decide +kernel
theorem dX2_scanNumber_33 : decode cX2_scanNumber 33 = .ok (.if_icmp .gt 41, 3) := by decide +kernel
theorem dX2_scanNumber_36 : decode cX2_scanNumber 36 = .ok (.bipush 10, 2) := by decide +kernel
theorem dX2_scanNumber_38 : decode cX2_scanNumber 38 = .ok (.iload_n 1, 1) := by decide +kernel
theorem dX2_scanNumber_39 : decode cX2_scanNumber 39 = .ok (.imul, 1) := by decide +kernel
theorem dX2_scanNumber_40 : decode cX2_scanNumber 40 = .ok (.iload_n 3, 1) := by decide +kernel
theorem dX2_scanNumber_41 : decode cX2_scanNumber 41 = .ok (.iadd, 1) := by decide +kernel
theorem dX2_scanNumber_42 : decode cX2_scanNumber 42 = .ok (.sipush 9999, 3) := by decide +kernel
theorem dX2_scanNumber_45 : decode cX2_scanNumber 45 = .ok (.if_icmp .le 6, 3) := by decide +kernel
theorem dX2_scanNumber_48 : decode cX2_scanNumber 48 = .ok (.goto 26, 3) := by decide +kernel
theorem dX2_scanNumber_51 : decode cX2_scanNumber 51 = .ok (.bipush 10, 2) := by decide +kernel
theorem dX2_scanNumber_53 : decode cX2_scanNumber 53 = .ok (.iload_n 1, 1) := by decide +kernel
theorem dX2_scanNumber_54 : decode cX2_scanNumber 54 = .ok (.imul, 1) := by decide +kernel
theorem dX2_scanNumber_55 : decode cX2_scanNumber 55 = .ok (.iload_n 3, 1) := by decide +kernel
theorem dX2_scanNumber_56 : decode cX2_scanNumber 56 = .ok (.iadd, 1) := by decide +kernel
theorem dX2_scanNumber_57 : decode cX2_scanNumber 57 = .ok (.istore_n 1, 1) := by decide +kernel
theorem dX2_scanNumber_58 : decode cX2_scanNumber 58 = .ok (.aload_n 0, 1) := by decide +kernel
theorem dX2_scanNumber_59 : decode cX2_scanNumber 59 = .ok (.dup, 1) := by decide +kernel
theorem dX2_scanNumber_60 : decode cX2_scanNumber 60 = .ok (.getfield 39, 3) := by decide +kernel
theorem dX2_scanNumber_63 : decode cX2_scanNumber 63 = .ok (.iconst 1, 1) := by decide +kernel
theorem dX2_scanNumber_64 : decode cX2_scanNumber 64 = .ok (.iadd, 1) := by decide +kernel
theorem dX2_scanNumber_65 : decode cX2_scanNumber 65 = .ok (.putfield 39, 3) := by decide +kernel
theorem dX2_scanNumber_68 : decode cX2_scanNumber 68 = .ok (.iinc 2 1, 3) := by decide +kernel
theorem dX2_scanNumber_71 : decode cX2_scanNumber 71 = .ok (.goto (-62), 3) := by decide +kernel
theorem dX2_scanNumber_74 : decode cX2_scanNumber 74 = .ok (.iload_n 1, 1) := by decide +kernel
theorem dX2_scanNumber_75 : decode cX2_scanNumber 75 = .ok (.ireturn, 1) := by decide +kernel
theorem dX3_init_0 : decode cX3_init 0 = .ok (.aload_n 0, 1) := by decide +kernel
theorem dX3_init_1 : decode cX3_init 1 = .ok (.invokespecial 3, 3) := by decide +kernel
theorem dX3_init_4 : decode cX3_init 4 = .ok (.aload_n 0, 1) := by decide +kernel
theorem dX3_init_5 : decode cX3_init 5 = .ok (.bipush 32, 2) := by decide +kernel
theorem dX3_init_7 : decode cX3_init 7 = .ok (.newarray .int, 2) := by decide +kernel
theorem dX3_init_9 : decode cX3_init 9 = .ok (.putfield 9, 3) := by decide +kernel
theorem dX3_init_12 : decode cX3_init 12 = .ok (.aload_n 0, 1) := by decide +kernel
theorem dX3_init_13 : decode cX3_init 13 = .ok (.bipush 32, 2) := by decide +kernel
theorem dX3_init_15 : decode cX3_init 15 = .ok (.newarray .int, 2) := by decide +kernel
theorem dX3_init_17 : decode cX3_init 17 = .ok (.putfield 15, 3) := by decide +kernel
theorem dX3_init_20 : decode cX3_init 20 = .ok (.aload_n 0, 1) := by decide +kernel
theorem dX3_init_21 : decode cX3_init 21 = .ok (.bipush 32, 2) := by decide +kernel
theorem dX3_init_23 : decode cX3_init 23 = .ok (.newarray .int, 2) := by decide +kernel
theorem dX3_init_25 : decode cX3_init 25 = .ok (.putfield 18, 3) := by decide +kernel
theorem dX3_init_28 : decode cX3_init 28 = .ok (.aload_n 0, 1) := by decide +kernel
theorem dX3_init_29 : decode cX3_init 29 = .ok (.bipush 32, 2) := by decide +kernel
theorem dX3_init_31 : decode cX3_init 31 = .ok (.newarray .int, 2) := by decide +kernel
theorem dX3_init_33 : decode cX3_init 33 = .ok (.putfield 21, 3) := by decide +kernel
theorem dX3_init_36 : decode cX3_init 36 = .ok (.aload_n 0, 1) := by decide +kernel
theorem dX3_init_37 : decode cX3_init 37 = .ok (.iconst 0, 1) := by decide +kernel
theorem dX3_init_38 : decode cX3_init 38 = .ok (.putfield 24, 3) := by decide +kernel
theorem dX3_init_41 : decode cX3_init 41 = .ok (.return_, 1) := by decide +kernel
set_option maxRecDepth 20000 in
theorem ggX3_clear_J7_fill_53178 : GoodIn wsX3_clear wsJ7_fill_53178 := goodIn_r _ [6] (by decide +kernel) (by decide +kernel)
set_option maxRecDepth 20000 in
theorem gX3_clear_J7_fill_53178 : GoodIn wsX3_clear (va_wsS RX3 28 yJ7_fill_53178 wsJ7_fill_53178) := goodIn_app (goodIn_of _ (by decide +kernel)) ggX3_clear_J7_fill_53178
theorem dX3_clear_0 : decode cX3_clear 0 = .ok (.aload_n 0, 1) := by decide +kernel
theorem dX3_clear_1 : decode cX3_clear 1 = .ok (.getfield 15, 3) := by decide +kernel
theorem dX3_clear_4 : decode cX3_clear 4 = .ok (.iconst 0, 1) := by decide +kernel
theorem dX3_clear_5 : decode cX3_clear 5 = .ok (.invokestatic 28, 3) := by decide +kernel
theorem dX3_clear_8 : decode cX3_clear 8 = .ok (.aload_n 0, 1) := by decide +kernel
theorem dX3_clear_9 : decode cX3_clear 9 = .ok (.iconst 0, 1) := by decide +kernel
theorem dX3_clear_10 : decode cX3_clear 10 = .ok (.putfield 24, 3) := by decide +kernel
theorem dX3_clear_13 : decode cX3_clear 13 = .ok (.return_, 1) := by decide +kernel
theorem dX3_copyFrom_0 : decode cX3_copyFrom 0 = .ok (.aload_n 1, 1) := by decide +kernel
theorem dX3_copyFrom_1 : decode cX3_copyFrom 1 = .ok (.getfield 9, 3) := by decide +kernel
theorem dX3_copyFrom_4 : decode cX3_copyFrom 4 = .ok (.iconst 0, 1) := by decide +kernel
theorem dX3_copyFrom_5 : decode cX3_copyFrom 5 = .ok (.aload_n 0, 1) := by decide +kernel
theorem dX3_copyFrom_6 : decode cX3_copyFrom 6 = .ok (.getfield 9, 3) := by decide +kernel
theorem dX3_copyFrom_9 : decode cX3_copyFrom 9 = .ok (.iconst 0, 1) := by decide +kernel
theorem dX3_copyFrom_10 : decode cX3_copyFrom 10 = .ok (.bipush 32, 2) := by decide +kernel
theorem dX3_copyFrom_12 : decode cX3_copyFrom 12 = .ok (.invokestatic 34, 3) := by decide +kernel
theorem dX3_copyFrom_15 : decode cX3_copyFrom 15 = .ok (.aload_n 1, 1) := by decide +kernel
theorem dX3_copyFrom_16 : decode cX3_copyFrom 16 = .ok (.getfield 15, 3) := by decide +kernel
theorem dX3_copyFrom_19 : decode cX3_copyFrom 19 = .ok (.iconst 0, 1) := by decide +kernel
theorem dX3_copyFrom_20 : decode cX3_copyFrom 20 = .ok (.aload_n 0, 1) := by decide +kernel
theorem dX3_copyFrom_21 : decode cX3_copyFrom 21 = .ok (.getfield 15, 3) := by decide +kernel
theorem dX3_copyFrom_24 : decode cX3_copyFrom 24 = .ok (.iconst 0, 1) := by decide +kernel
theorem dX3_copyFrom_25 : decode cX3_copyFrom 25 = .ok (.bipush 32, 2) := by decide +kernel
theorem dX3_copyFrom_27 : decode cX3_copyFrom 27 = .ok (.invokestatic 34, 3) := by decide +kernel
theorem dX3_copyFrom_30 : decode cX3_copyFrom 30 = .ok (.aload_n 1, 1) := by decide +kernel
theorem dX3_copyFrom_31 : decode cX3_copyFrom 31 = .ok (.getfield 18, 3) := by decide +kernel
theorem dX3_copyFrom_34 : decode cX3_copyFrom 34 = .ok (.iconst 0, 1) := by decide +kernel
theorem dX3_copyFrom_35 : decode cX3_copyFrom 35 = .ok (.aload_n 0, 1) := by decide +kernel
theorem dX3_copyFrom_36 : decode cX3_copyFrom 36 = .ok (.getfield 18, 3) := by decide +kernel
theorem dX3_copyFrom_39 : decode cX3_copyFrom 39 = .ok (.iconst 0, 1) := by decide +kernel
theorem dX3_copyFrom_40 : decode cX3_copyFrom 40 = .ok (.bipush 32, 2) := by decide +kernel
theorem dX3_copyFrom_42 : decode cX3_copyFrom 42 = .ok (.invokestatic 34, 3) := by decide +kernel
theorem dX3_copyFrom_45 : decode cX3_copyFrom 45 = .ok (.aload_n 1, 1) := by decide +kernel
theorem dX3_copyFrom_46 : decode cX3_copyFrom 46 = .ok (.getfield 21, 3) := by decide +kernel
theorem dX3_copyFrom_49 : decode cX3_copyFrom 49 = .ok (.iconst 0, 1) := by decide +kernel
theorem dX3_copyFrom_50 : decode cX3_copyFrom 50 = .ok (.aload_n 0, 1) := by decide +kernel
theorem dX3_copyFrom_51 : decode cX3_copyFrom 51 = .ok (.getfield 21, 3) := by decide +kernel
theorem dX3_copyFrom_54 : decode cX3_copyFrom 54 = .ok (.iconst 0, 1) := by decide +kernel
theorem dX3_copyFrom_55 : decode cX3_copyFrom 55 = .ok (.bipush 32, 2) := by decide +kernel
theorem dX3_copyFrom_57 : decode cX3_copyFrom 57 = .ok (.invokestatic 34, 3) := by decide +kernel
theorem dX3_copyFrom_60 : decode cX3_copyFrom 60 = .ok (.aload_n 0, 1) := by decide +kernel
theorem dX3_copyFrom_61 : decode cX3_copyFrom 61 = .ok (.aload_n 1, 1) := by decide +kernel
theorem dX3_copyFrom_62 : decode cX3_copyFrom 62 = .ok (.getfield 24, 3) := by decide +kernel
theorem dX3_copyFrom_65 : decode cX3_copyFrom 65 = .ok (.putfield 24, 3) := by decide +kernel
theorem dX3_copyFrom_68 : decode cX3_copyFrom 68 = .ok (.return_, 1) := by decide +kernel
set_option maxRecDepth 20000 in
theorem ggX3_receive_X3_sumOf : GoodIn wsX3_receive wsX3_sumOf := goodIn_r _ [5] (by decide +kernel) (by decide +kernel)
set_option maxRecDepth 20000 in
theorem gX3_receive_X3_sumOf : GoodIn wsX3_receive (va_wsS RX3 40 yX3_sumOf wsX3_sumOf) := goodIn_app (goodIn_of _ (by decide +kernel)) ggX3_receive_X3_sumOf
set_option maxRecDepth 20000 in
theorem ggX3_receive_X3_lay : GoodIn wsX3_receive wsX3_lay := goodIn_r _ [9, 10, 11, 12, 13, 14, 15, 16, 17, 18] (by decide +kernel) (by decide +kernel)
set_option maxRecDepth 20000 in
theorem gX3_receive_X3_lay : GoodIn wsX3_receive (wsV RX3 44 RX3 yX3_lay wsX3_lay) := goodIn_app (goodIn_of _ (by decide +kernel)) ggX3_receive_X3_lay
theorem dX3_receive_0 : decode cX3_receive 0 = .ok (.iload_n 1, 1) := by decide +kernel
theorem dX3_receive_1 : decode cX3_receive 1 = .ok (.iload_n 3, 1) := by decide +kernel
theorem dX3_receive_2 : decode cX3_receive 2 = .ok (.iload 4, 2) := by decide +kernel
theorem dX3_receive_4 : decode cX3_receive 4 = .ok (.invokestatic 40, 3) := by decide +kernel
theorem dX3_receive_7 : decode cX3_receive 7 = .ok (.istore 5, 2) := by decide +kernel
theorem dX3_receive_9 : decode cX3_receive 9 = .ok (.aload_n 0, 1) := by decide +kernel
theorem dX3_receive_10 : decode cX3_receive 10 = .ok (.getfield 24, 3) := by decide +kernel
theorem dX3_receive_13 : decode cX3_receive 13 = .ok (.istore 6, 2) := by decide +kernel
theorem dX3_receive_15 : decode cX3_receive 15 = .ok (.aload_n 0, 1) := by decide +kernel
theorem dX3_receive_16 : decode cX3_receive 16 = .ok (.iconst 0, 1) := by decide +kernel
theorem dX3_receive_17 : decode cX3_receive 17 = .ok (.putfield 24, 3) := by decide +kernel
theorem dX3_receive_20 : decode cX3_receive 20 = .ok (.iload 6, 2) := by decide +kernel
theorem dX3_receive_22 : decode cX3_receive 22 = .ok (.tableswitch 100 1 4 #[30, 33, 47, 72], 30) := by decide +kernel
theorem dX3_receive_52 : decode cX3_receive 52 = .ok (.goto 81, 3) := by decide +kernel
theorem dX3_receive_55 : decode cX3_receive 55 = .ok (.aload_n 0, 1) := by decide +kernel
theorem dX3_receive_56 : decode cX3_receive 56 = .ok (.iload_n 2, 1) := by decide +kernel
theorem dX3_receive_57 : decode cX3_receive 57 = .ok (.iload_n 1, 1) := by decide +kernel
theorem dX3_receive_58 : decode cX3_receive 58 = .ok (.iload_n 3, 1) := by decide +kernel
theorem dX3_receive_59 : decode cX3_receive 59 = .ok (.iload 4, 2) := by decide +kernel
theorem dX3_receive_61 : decode cX3_receive 61 = .ok (.iload 5, 2) := by decide +kernel
theorem dX3_receive_63 : decode cX3_receive 63 = .ok (.invokevirtual 44, 3) := by decide +kernel
theorem dX3_receive_66 : decode cX3_receive 66 = .ok (.goto 67, 3) := by decide +kernel
theorem dX3_receive_69 : decode cX3_receive 69 = .ok (.aload_n 0, 1) := by decide +kernel
theorem dX3_receive_70 : decode cX3_receive 70 = .ok (.iload_n 1, 1) := by decide +kernel
theorem dX3_receive_71 : decode cX3_receive 71 = .ok (.iload_n 1, 1) := by decide +kernel
theorem dX3_receive_72 : decode cX3_receive 72 = .ok (.iload_n 3, 1) := by decide +kernel
theorem dX3_receive_73 : decode cX3_receive 73 = .ok (.iload 4, 2) := by decide +kernel
theorem dX3_receive_75 : decode cX3_receive 75 = .ok (.iload 5, 2) := by decide +kernel
theorem dX3_receive_77 : decode cX3_receive 77 = .ok (.invokevirtual 44, 3) := by decide +kernel
theorem dX3_receive_80 : decode cX3_receive 80 = .ok (.aload_n 0, 1) := by decide +kernel
theorem dX3_receive_81 : decode cX3_receive 81 = .ok (.iload_n 2, 1) := by decide +kernel
theorem dX3_receive_82 : decode cX3_receive 82 = .ok (.iload_n 1, 1) := by decide +kernel
theorem dX3_receive_83 : decode cX3_receive 83 = .ok (.iload_n 3, 1) := by decide +kernel
theorem dX3_receive_84 : decode cX3_receive 84 = .ok (.iload 4, 2) := by decide +kernel
theorem dX3_receive_86 : decode cX3_receive 86 = .ok (.iload 5, 2) := by decide +kernel
theorem dX3_receive_88 : decode cX3_receive 88 = .ok (.invokevirtual 44, 3) := by decide +kernel
theorem dX3_receive_91 : decode cX3_receive 91 = .ok (.goto 42, 3) := by decide +kernel
theorem dX3_receive_94 : decode cX3_receive 94 = .ok (.aload_n 0, 1) := by decide +kernel
theorem dX3_receive_95 : decode cX3_receive 95 = .ok (.iload_n 1, 1) := by decide +kernel
theorem dX3_receive_96 : decode cX3_receive 96 = .ok (.iload_n 1, 1) := by decide +kernel
theorem dX3_receive_97 : decode cX3_receive 97 = .ok (.iload_n 3, 1) := by decide +kernel
theorem dX3_receive_98 : decode cX3_receive 98 = .ok (.iload 4, 2) := by decide +kernel
theorem dX3_receive_100 : decode cX3_receive 100 = .ok (.sipush 9999, 3) := by decide +kernel
theorem dX3_receive_103 : decode cX3_receive 103 = .ok (.if_icmp .ge 10, 3) := by decide +kernel
theorem dX3_receive_106 : decode cX3_receive 106 = .ok (.iload 4, 2) := by decide +kernel
theorem dX3_receive_108 : decode cX3_receive 108 = .ok (.iconst 1, 1) := by decide +kernel
theorem dX3_receive_109 : decode cX3_receive 109 = .ok (.iadd, 1) := by decide +kernel
