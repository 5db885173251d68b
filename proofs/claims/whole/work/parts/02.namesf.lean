theorem dX5_sumOf_2 : decode cX5_sumOf 2 = .ok (.iload_n 0, 1) := by decide +kernel
theorem dX5_sumOf_3 : decode cX5_sumOf 3 = .ok (.imul, 1) := by decide +kernel
theorem dX5_sumOf_4 : decode cX5_sumOf 4 = .ok (.bipush 13, 2) := by decide +kernel
theorem dX5_sumOf_6 : decode cX5_sumOf 6 = .ok (.iload_n 1, 1) := by decide +kernel
theorem dX5_sumOf_7 : decode cX5_sumOf 7 = .ok (.imul, 1) := by decide +kernel
theorem dX5_sumOf_8 : decode cX5_sumOf 8 = .ok (.iadd, 1) := by decide +kernel
theorem dX5_sumOf_9 : decode cX5_sumOf 9 = .ok (.iload_n 2, 1) := by decide +kernel
theorem dX5_sumOf_10 : decode cX5_sumOf 10 = .ok (.iadd, 1) := by decide +kernel
theorem dX5_sumOf_11 : decode cX5_sumOf 11 = .ok (.bipush 97, 2) := by decide +kernel
theorem dX5_sumOf_13 : decode cX5_sumOf 13 = .ok (.irem, 1) := by decide +kernel
theorem dX5_sumOf_14 : decode cX5_sumOf 14 = .ok (.ireturn, 1) := by decide +kernel
set_option maxRecDepth 20000 in
theorem ggX5_isWhole_X5_of : GoodIn wsX5_isWhole wsX5_of := goodIn_r _ [5] (by decide +kernel) (by decide +kernel)
set_option maxRecDepth 20000 in
theorem gX5_isWhole_X5_of : GoodIn wsX5_isWhole (va_wsS RX5 37 yX5_of wsX5_of) := goodIn_app (goodIn_of _ (by decide +kernel)) ggX5_isWhole_X5_of
set_option maxRecDepth 20000 in
theorem ggX5_isWhole_X5_sumOf : GoodIn wsX5_isWhole wsX5_sumOf := goodIn_r _ [8] (by decide +kernel) (by decide +kernel)
set_option maxRecDepth 20000 in
theorem gX5_isWhole_X5_sumOf : GoodIn wsX5_isWhole (va_wsS RX5 41 yX5_sumOf wsX5_sumOf) := goodIn_app (goodIn_of _ (by decide +kernel)) ggX5_isWhole_X5_sumOf
theorem dX5_isWhole_0 : decode cX5_isWhole 0 = .ok (.aload_n 0, 1) := by decide +kernel
theorem dX5_isWhole_1 : decode cX5_isWhole 1 = .ok (.getfield 7, 3) := by decide +kernel
theorem dX5_isWhole_4 : decode cX5_isWhole 4 = .ok (.iload_n 1, 1) := by decide +kernel
theorem dX5_isWhole_5 : decode cX5_isWhole 5 = .ok (.iload_n 2, 1) := by decide +kernel
theorem dX5_isWhole_6 : decode cX5_isWhole 6 = .ok (.iconst 0, 1) := by decide +kernel
theorem dX5_isWhole_7 : decode cX5_isWhole 7 = .ok (.invokestatic 37, 3) := by decide +kernel
theorem dX5_isWhole_10 : decode cX5_isWhole 10 = .ok (.iaload, 1) := by decide +kernel
theorem dX5_isWhole_11 : decode cX5_isWhole 11 = .ok (.iconst 1, 1) := by decide +kernel
theorem dX5_isWhole_12 : decode cX5_isWhole 12 = .ok (.if_icmp .ne 7, 3) := by decide +kernel
theorem dX5_isWhole_15 : decode cX5_isWhole 15 = .ok (.iconst 1, 1) := by decide +kernel
theorem dX5_isWhole_16 : decode cX5_isWhole 16 = .ok (.goto 4, 3) := by decide +kernel
theorem dX5_isWhole_19 : decode cX5_isWhole 19 = .ok (.iconst 0, 1) := by decide +kernel
theorem dX5_isWhole_20 : decode cX5_isWhole 20 = .ok (.istore_n 3, 1) := by decide +kernel
theorem dX5_isWhole_21 : decode cX5_isWhole 21 = .ok (.iload_n 3, 1) := by decide +kernel
theorem dX5_isWhole_22 : decode cX5_isWhole 22 = .ok (.ifCond .eq 57, 3) := by decide +kernel
theorem dX5_isWhole_25 : decode cX5_isWhole 25 = .ok (.aload_n 0, 1) := by decide +kernel
theorem dX5_isWhole_26 : decode cX5_isWhole 26 = .ok (.getfield 7, 3) := by decide +kernel
theorem dX5_isWhole_29 : decode cX5_isWhole 29 = .ok (.iload_n 1, 1) := by decide +kernel
theorem dX5_isWhole_30 : decode cX5_isWhole 30 = .ok (.iload_n 2, 1) := by decide +kernel
theorem dX5_isWhole_31 : decode cX5_isWhole 31 = .ok (.iconst 4, 1) := by decide +kernel
theorem dX5_isWhole_32 : decode cX5_isWhole 32 = .ok (.invokestatic 37, 3) := by decide +kernel
theorem dX5_isWhole_35 : decode cX5_isWhole 35 = .ok (.iaload, 1) := by decide +kernel
theorem dX5_isWhole_36 : decode cX5_isWhole 36 = .ok (.aload_n 0, 1) := by decide +kernel
theorem dX5_isWhole_37 : decode cX5_isWhole 37 = .ok (.getfield 7, 3) := by decide +kernel
theorem dX5_isWhole_40 : decode cX5_isWhole 40 = .ok (.iload_n 1, 1) := by decide +kernel
theorem dX5_isWhole_41 : decode cX5_isWhole 41 = .ok (.iload_n 2, 1) := by decide +kernel
theorem dX5_isWhole_42 : decode cX5_isWhole 42 = .ok (.iconst 1, 1) := by decide +kernel
theorem dX5_isWhole_43 : decode cX5_isWhole 43 = .ok (.invokestatic 37, 3) := by decide +kernel
theorem dX5_isWhole_46 : decode cX5_isWhole 46 = .ok (.iaload, 1) := by decide +kernel
theorem dX5_isWhole_47 : decode cX5_isWhole 47 = .ok (.aload_n 0, 1) := by decide +kernel
theorem dX5_isWhole_48 : decode cX5_isWhole 48 = .ok (.getfield 7, 3) := by decide +kernel
theorem dX5_isWhole_51 : decode cX5_isWhole 51 = .ok (.iload_n 1, 1) := by decide +kernel
theorem dX5_isWhole_52 : decode cX5_isWhole 52 = .ok (.iload_n 2, 1) := by decide +kernel
theorem dX5_isWhole_53 : decode cX5_isWhole 53 = .ok (.iconst 2, 1) := by decide +kernel
theorem dX5_isWhole_54 : decode cX5_isWhole 54 = .ok (.invokestatic 37, 3) := by decide +kernel
theorem dX5_isWhole_57 : decode cX5_isWhole 57 = .ok (.iaload, 1) := by decide +kernel
theorem dX5_isWhole_58 : decode cX5_isWhole 58 = .ok (.aload_n 0, 1) := by decide +kernel
theorem dX5_isWhole_59 : decode cX5_isWhole 59 = .ok (.getfield 7, 3) := by decide +kernel
theorem dX5_isWhole_62 : decode cX5_isWhole 62 = .ok (.iload_n 1, 1) := by decide +kernel
theorem dX5_isWhole_63 : decode cX5_isWhole 63 = .ok (.iload_n 2, 1) := by decide +kernel
theorem dX5_isWhole_64 : decode cX5_isWhole 64 = .ok (.iconst 3, 1) := by decide +kernel
theorem dX5_isWhole_65 : decode cX5_isWhole 65 = .ok (.invokestatic 37, 3) := by decide +kernel
theorem dX5_isWhole_68 : decode cX5_isWhole 68 = .ok (.iaload, 1) := by decide +kernel
theorem dX5_isWhole_69 : decode cX5_isWhole 69 = .ok (.invokestatic 41, 3) := by decide +kernel
theorem dX5_isWhole_72 : decode cX5_isWhole 72 = .ok (.if_icmp .ne 7, 3) := by decide +kernel
theorem dX5_isWhole_75 : decode cX5_isWhole 75 = .ok (.iconst 1, 1) := by decide +kernel
theorem dX5_isWhole_76 : decode cX5_isWhole 76 = .ok (.goto 4, 3) := by decide +kernel
theorem dX5_isWhole_79 : decode cX5_isWhole 79 = .ok (.iconst 0, 1) := by decide +kernel
theorem dX5_isWhole_80 : decode cX5_isWhole 80 = .ok (.ireturn, 1) := by decide +kernel
set_option maxRecDepth 20000 in
theorem ggX5_reason_X5_of : GoodIn wsX5_reason wsX5_of := goodIn_r _ [5] (by decide +kernel) (by decide +kernel)
set_option maxRecDepth 20000 in
theorem gX5_reason_X5_of : GoodIn wsX5_reason (va_wsS RX5 37 yX5_of wsX5_of) := goodIn_app (goodIn_of _ (by decide +kernel)) ggX5_reason_X5_of
set_option maxRecDepth 20000 in
theorem ggX5_reason_X5_isWhole : GoodIn wsX5_reason wsX5_isWhole := goodIn_r _ [9, 1, 2, 3, 4, 5, 10, 11, 12, 13, 14, 15, 16, 17, 18, 19, 20, 21, 22, 23, 24, 25] (by decide +kernel) (by decide +kernel)
set_option maxRecDepth 20000 in
theorem gX5_reason_X5_isWhole : GoodIn wsX5_reason (wsV RX5 44 RX5 yX5_isWhole wsX5_isWhole) := goodIn_app (goodIn_of _ (by decide +kernel)) ggX5_reason_X5_isWhole
theorem dX5_reason_0 : decode cX5_reason 0 = .ok (.aload_n 0, 1) := by decide +kernel
theorem dX5_reason_1 : decode cX5_reason 1 = .ok (.getfield 7, 3) := by decide +kernel
theorem dX5_reason_4 : decode cX5_reason 4 = .ok (.iload_n 1, 1) := by decide +kernel
theorem dX5_reason_5 : decode cX5_reason 5 = .ok (.iload_n 2, 1) := by decide +kernel
theorem dX5_reason_6 : decode cX5_reason 6 = .ok (.iconst 0, 1) := by decide +kernel
theorem dX5_reason_7 : decode cX5_reason 7 = .ok (.invokestatic 37, 3) := by decide +kernel
theorem dX5_reason_10 : decode cX5_reason 10 = .ok (.iaload, 1) := by decide +kernel
theorem dX5_reason_11 : decode cX5_reason 11 = .ok (.ifCond .ne 5, 3) := by decide +kernel
theorem dX5_reason_14 : decode cX5_reason 14 = .ok (.iconst 1, 1) := by decide +kernel
theorem dX5_reason_15 : decode cX5_reason 15 = .ok (.ireturn, 1) := by decide +kernel
theorem dX5_reason_16 : decode cX5_reason 16 = .ok (.aload_n 0, 1) := by decide +kernel
theorem dX5_reason_17 : decode cX5_reason 17 = .ok (.iload_n 1, 1) := by decide +kernel
theorem dX5_reason_18 : decode cX5_reason 18 = .ok (.iload_n 2, 1) := by decide +kernel
theorem dX5_reason_19 : decode cX5_reason 19 = .ok (.invokevirtual 44, 3) := by decide +kernel
theorem dX5_reason_22 : decode cX5_reason 22 = .ok (.ifCond .ne 5, 3) := by decide +kernel
theorem dX5_reason_25 : decode cX5_reason 25 = .ok (.iconst 2, 1) := by decide +kernel
theorem dX5_reason_26 : decode cX5_reason 26 = .ok (.ireturn, 1) := by decide +kernel
theorem dX5_reason_27 : decode cX5_reason 27 = .ok (.aload_n 0, 1) := by decide +kernel
theorem dX5_reason_28 : decode cX5_reason 28 = .ok (.getfield 7, 3) := by decide +kernel
theorem dX5_reason_31 : decode cX5_reason 31 = .ok (.iload_n 1, 1) := by decide +kernel
theorem dX5_reason_32 : decode cX5_reason 32 = .ok (.iload_n 2, 1) := by decide +kernel
theorem dX5_reason_33 : decode cX5_reason 33 = .ok (.iconst 1, 1) := by decide +kernel
theorem dX5_reason_34 : decode cX5_reason 34 = .ok (.invokestatic 37, 3) := by decide +kernel
theorem dX5_reason_37 : decode cX5_reason 37 = .ok (.iaload, 1) := by decide +kernel
theorem dX5_reason_38 : decode cX5_reason 38 = .ok (.iload_n 2, 1) := by decide +kernel
theorem dX5_reason_39 : decode cX5_reason 39 = .ok (.if_icmp .eq 7, 3) := by decide +kernel
theorem dX5_reason_42 : decode cX5_reason 42 = .ok (.iconst 3, 1) := by decide +kernel
theorem dX5_reason_43 : decode cX5_reason 43 = .ok (.goto 31, 3) := by decide +kernel
theorem dX5_reason_46 : decode cX5_reason 46 = .ok (.aload_n 0, 1) := by decide +kernel
theorem dX5_reason_47 : decode cX5_reason 47 = .ok (.getfield 7, 3) := by decide +kernel
theorem dX5_reason_50 : decode cX5_reason 50 = .ok (.iload_n 1, 1) := by decide +kernel
theorem dX5_reason_51 : decode cX5_reason 51 = .ok (.iload_n 2, 1) := by decide +kernel
theorem dX5_reason_52 : decode cX5_reason 52 = .ok (.iconst 2, 1) := by decide +kernel
theorem dX5_reason_53 : decode cX5_reason 53 = .ok (.invokestatic 37, 3) := by decide +kernel
theorem dX5_reason_56 : decode cX5_reason 56 = .ok (.iaload, 1) := by decide +kernel
theorem dX5_reason_57 : decode cX5_reason 57 = .ok (.aload_n 0, 1) := by decide +kernel
theorem dX5_reason_58 : decode cX5_reason 58 = .ok (.getfield 7, 3) := by decide +kernel
theorem dX5_reason_61 : decode cX5_reason 61 = .ok (.bipush 8, 2) := by decide +kernel
theorem dX5_reason_63 : decode cX5_reason 63 = .ok (.iload_n 2, 1) := by decide +kernel
theorem dX5_reason_64 : decode cX5_reason 64 = .ok (.iadd, 1) := by decide +kernel
theorem dX5_reason_65 : decode cX5_reason 65 = .ok (.iaload, 1) := by decide +kernel
theorem dX5_reason_66 : decode cX5_reason 66 = .ok (.if_icmp .eq 7, 3) := by decide +kernel
theorem dX5_reason_69 : decode cX5_reason 69 = .ok (.iconst 4, 1) := by decide +kernel
theorem dX5_reason_70 : decode cX5_reason 70 = .ok (.goto 4, 3) := by decide +kernel
theorem dX5_reason_73 : decode cX5_reason 73 = .ok (.iconst 0, 1) := by decide +kernel
theorem dX5_reason_74 : decode cX5_reason 74 = .ok (.ireturn, 1) := by decide +kernel
set_option maxRecDepth 20000 in
theorem ggX5_isBelieved_X5_reason : GoodIn wsX5_isBelieved wsX5_reason := goodIn_r _ [6, 1, 7, 8, 5, 9, 10, 11, 12, 13, 14, 15, 16, 17, 18, 19, 20, 21, 22, 23, 24, 25, 26, 27, 28, 29] (by decide +kernel) (by decide +kernel)
set_option maxRecDepth 20000 in
theorem gX5_isBelieved_X5_reason : GoodIn wsX5_isBelieved (wsV RX5 48 RX5 yX5_reason wsX5_reason) := goodIn_app (goodIn_of _ (by decide +kernel)) ggX5_isBelieved_X5_reason
theorem dX5_isBelieved_0 : decode cX5_isBelieved 0 = .ok (.aload_n 0, 1) := by decide +kernel
theorem dX5_isBelieved_1 : decode cX5_isBelieved 1 = .ok (.getfield 7, 3) := by decide +kernel
theorem dX5_isBelieved_4 : decode cX5_isBelieved 4 = .ok (.bipush 8, 2) := by decide +kernel
theorem dX5_isBelieved_6 : decode cX5_isBelieved 6 = .ok (.iload_n 2, 1) := by decide +kernel
theorem dX5_isBelieved_7 : decode cX5_isBelieved 7 = .ok (.iadd, 1) := by decide +kernel
theorem dX5_isBelieved_8 : decode cX5_isBelieved 8 = .ok (.iaload, 1) := by decide +kernel
theorem dX5_isBelieved_9 : decode cX5_isBelieved 9 = .ok (.ifCond .le 16, 3) := by decide +kernel
theorem dX5_isBelieved_12 : decode cX5_isBelieved 12 = .ok (.aload_n 0, 1) := by decide +kernel
theorem dX5_isBelieved_13 : decode cX5_isBelieved 13 = .ok (.iload_n 1, 1) := by decide +kernel
theorem dX5_isBelieved_14 : decode cX5_isBelieved 14 = .ok (.iload_n 2, 1) := by decide +kernel
theorem dX5_isBelieved_15 : decode cX5_isBelieved 15 = .ok (.invokevirtual 48, 3) := by decide +kernel
theorem dX5_isBelieved_18 : decode cX5_isBelieved 18 = .ok (.ifCond .ne 7, 3) := by decide +kernel
theorem dX5_isBelieved_21 : decode cX5_isBelieved 21 = .ok (.iconst 1, 1) := by decide +kernel
theorem dX5_isBelieved_22 : decode cX5_isBelieved 22 = .ok (.goto 4, 3) := by decide +kernel
theorem dX5_isBelieved_25 : decode cX5_isBelieved 25 = .ok (.iconst 0, 1) := by decide +kernel
theorem dX5_isBelieved_26 : decode cX5_isBelieved 26 = .ok (.ireturn, 1) := by decide +kernel
set_option maxRecDepth 20000 in
theorem ggX5_isLost_X5_isBelieved : GoodIn wsX5_isLost wsX5_isBelieved := goodIn_r _ [6, 1, 7, 8, 9, 5, 10, 11, 12, 13, 14, 15, 16, 17, 18, 19, 20, 21, 22, 23, 24, 25, 26, 27, 28, 29, 30, 31, 32, 33] (by decide +kernel) (by decide +kernel)
set_option maxRecDepth 20000 in
theorem gX5_isLost_X5_isBelieved : GoodIn wsX5_isLost (wsV RX5 52 RX5 yX5_isBelieved wsX5_isBelieved) := goodIn_app (goodIn_of _ (by decide +kernel)) ggX5_isLost_X5_isBelieved
theorem dX5_isLost_0 : decode cX5_isLost 0 = .ok (.aload_n 0, 1) := by decide +kernel
theorem dX5_isLost_1 : decode cX5_isLost 1 = .ok (.getfield 7, 3) := by decide +kernel
theorem dX5_isLost_4 : decode cX5_isLost 4 = .ok (.bipush 8, 2) := by decide +kernel
theorem dX5_isLost_6 : decode cX5_isLost 6 = .ok (.iload_n 1, 1) := by decide +kernel
theorem dX5_isLost_7 : decode cX5_isLost 7 = .ok (.iadd, 1) := by decide +kernel
theorem dX5_isLost_8 : decode cX5_isLost 8 = .ok (.iaload, 1) := by decide +kernel
theorem dX5_isLost_9 : decode cX5_isLost 9 = .ok (.ifCond .le 25, 3) := by decide +kernel
theorem dX5_isLost_12 : decode cX5_isLost 12 = .ok (.aload_n 0, 1) := by decide +kernel
theorem dX5_isLost_13 : decode cX5_isLost 13 = .ok (.iconst 0, 1) := by decide +kernel
theorem dX5_isLost_14 : decode cX5_isLost 14 = .ok (.iload_n 1, 1) := by decide +kernel
theorem dX5_isLost_15 : decode cX5_isLost 15 = .ok (.invokevirtual 52, 3) := by decide +kernel
theorem dX5_isLost_18 : decode cX5_isLost 18 = .ok (.ifCond .ne 16, 3) := by decide +kernel
theorem dX5_isLost_21 : decode cX5_isLost 21 = .ok (.aload_n 0, 1) := by decide +kernel
theorem dX5_isLost_22 : decode cX5_isLost 22 = .ok (.iconst 1, 1) := by decide +kernel
theorem dX5_isLost_23 : decode cX5_isLost 23 = .ok (.iload_n 1, 1) := by decide +kernel
theorem dX5_isLost_24 : decode cX5_isLost 24 = .ok (.invokevirtual 52, 3) := by decide +kernel
theorem dX5_isLost_27 : decode cX5_isLost 27 = .ok (.ifCond .ne 7, 3) := by decide +kernel
theorem dX5_isLost_30 : decode cX5_isLost 30 = .ok (.iconst 1, 1) := by decide +kernel
theorem dX5_isLost_31 : decode cX5_isLost 31 = .ok (.goto 4, 3) := by decide +kernel
theorem dX5_isLost_34 : decode cX5_isLost 34 = .ok (.iconst 0, 1) := by decide +kernel
theorem dX5_isLost_35 : decode cX5_isLost 35 = .ok (.ireturn, 1) := by decide +kernel
set_option maxRecDepth 20000 in
theorem ggX5_canMend_X5_isBelieved : GoodIn wsX5_canMend wsX5_isBelieved := goodIn_r _ [5, 6, 7, 8, 9, 4, 10, 11, 12, 13, 14, 15, 16, 17, 18, 19, 20, 21, 22, 23, 24, 25, 26, 27, 28, 29, 30, 31, 32, 33] (by decide +kernel) (by decide +kernel)
set_option maxRecDepth 20000 in
theorem gX5_canMend_X5_isBelieved : GoodIn wsX5_canMend (wsV RX5 52 RX5 yX5_isBelieved wsX5_isBelieved) := goodIn_app (goodIn_of _ (by decide +kernel)) ggX5_canMend_X5_isBelieved
theorem dX5_canMend_0 : decode cX5_canMend 0 = .ok (.aload_n 0, 1) := by decide +kernel
theorem dX5_canMend_1 : decode cX5_canMend 1 = .ok (.iconst 0, 1) := by decide +kernel
theorem dX5_canMend_2 : decode cX5_canMend 2 = .ok (.iload_n 1, 1) := by decide +kernel
theorem dX5_canMend_3 : decode cX5_canMend 3 = .ok (.invokevirtual 52, 3) := by decide +kernel
theorem dX5_canMend_6 : decode cX5_canMend 6 = .ok (.aload_n 0, 1) := by decide +kernel
theorem dX5_canMend_7 : decode cX5_canMend 7 = .ok (.iconst 1, 1) := by decide +kernel
theorem dX5_canMend_8 : decode cX5_canMend 8 = .ok (.iload_n 1, 1) := by decide +kernel
theorem dX5_canMend_9 : decode cX5_canMend 9 = .ok (.invokevirtual 52, 3) := by decide +kernel
theorem dX5_canMend_12 : decode cX5_canMend 12 = .ok (.if_icmp .eq 7, 3) := by decide +kernel
theorem dX5_canMend_15 : decode cX5_canMend 15 = .ok (.iconst 1, 1) := by decide +kernel
theorem dX5_canMend_16 : decode cX5_canMend 16 = .ok (.goto 4, 3) := by decide +kernel
theorem dX5_canMend_19 : decode cX5_canMend 19 = .ok (.iconst 0, 1) := by decide +kernel
theorem dX5_canMend_20 : decode cX5_canMend 20 = .ok (.ireturn, 1) := by decide +kernel
set_option maxRecDepth 20000 in
theorem ggX5_lay_X5_of : GoodIn wsX5_lay wsX5_of := goodIn_r _ [5] (by decide +kernel) (by decide +kernel)
set_option maxRecDepth 20000 in
theorem gX5_lay_X5_of : GoodIn wsX5_lay (va_wsS RX5 37 yX5_of wsX5_of) := goodIn_app (goodIn_of _ (by decide +kernel)) ggX5_lay_X5_of
theorem dX5_lay_0 : decode cX5_lay 0 = .ok (.aload_n 0, 1) := by decide +kernel
theorem dX5_lay_1 : decode cX5_lay 1 = .ok (.getfield 7, 3) := by decide +kernel
theorem dX5_lay_4 : decode cX5_lay 4 = .ok (.iload_n 1, 1) := by decide +kernel
theorem dX5_lay_5 : decode cX5_lay 5 = .ok (.iload_n 2, 1) := by decide +kernel
theorem dX5_lay_6 : decode cX5_lay 6 = .ok (.iconst 0, 1) := by decide +kernel
theorem dX5_lay_7 : decode cX5_lay 7 = .ok (.invokestatic 37, 3) := by decide +kernel
theorem dX5_lay_10 : decode cX5_lay 10 = .ok (.iconst 1, 1) := by decide +kernel
theorem dX5_lay_11 : decode cX5_lay 11 = .ok (.iastore, 1) := by decide +kernel
theorem dX5_lay_12 : decode cX5_lay 12 = .ok (.aload_n 0, 1) := by decide +kernel
theorem dX5_lay_13 : decode cX5_lay 13 = .ok (.getfield 7, 3) := by decide +kernel
theorem dX5_lay_16 : decode cX5_lay 16 = .ok (.iload_n 1, 1) := by decide +kernel
theorem dX5_lay_17 : decode cX5_lay 17 = .ok (.iload_n 2, 1) := by decide +kernel
theorem dX5_lay_18 : decode cX5_lay 18 = .ok (.iconst 1, 1) := by decide +kernel
theorem dX5_lay_19 : decode cX5_lay 19 = .ok (.invokestatic 37, 3) := by decide +kernel
theorem dX5_lay_22 : decode cX5_lay 22 = .ok (.iload_n 3, 1) := by decide +kernel
theorem dX5_lay_23 : decode cX5_lay 23 = .ok (.iastore, 1) := by decide +kernel
theorem dX5_lay_24 : decode cX5_lay 24 = .ok (.aload_n 0, 1) := by decide +kernel
theorem dX5_lay_25 : decode cX5_lay 25 = .ok (.getfield 7, 3) := by decide +kernel
theorem dX5_lay_28 : decode cX5_lay 28 = .ok (.iload_n 1, 1) := by decide +kernel
theorem dX5_lay_29 : decode cX5_lay 29 = .ok (.iload_n 2, 1) := by decide +kernel
theorem dX5_lay_30 : decode cX5_lay 30 = .ok (.iconst 2, 1) := by decide +kernel
theorem dX5_lay_31 : decode cX5_lay 31 = .ok (.invokestatic 37, 3) := by decide +kernel
theorem dX5_lay_34 : decode cX5_lay 34 = .ok (.aload_n 0, 1) := by decide +kernel
theorem dX5_lay_35 : decode cX5_lay 35 = .ok (.getfield 7, 3) := by decide +kernel
theorem dX5_lay_38 : decode cX5_lay 38 = .ok (.bipush 8, 2) := by decide +kernel
theorem dX5_lay_40 : decode cX5_lay 40 = .ok (.iload_n 3, 1) := by decide +kernel
theorem dX5_lay_41 : decode cX5_lay 41 = .ok (.iadd, 1) := by decide +kernel
theorem dX5_lay_42 : decode cX5_lay 42 = .ok (.iaload, 1) := by decide +kernel
theorem dX5_lay_43 : decode cX5_lay 43 = .ok (.iastore, 1) := by decide +kernel
theorem dX5_lay_44 : decode cX5_lay 44 = .ok (.aload_n 0, 1) := by decide +kernel
theorem dX5_lay_45 : decode cX5_lay 45 = .ok (.getfield 7, 3) := by decide +kernel
theorem dX5_lay_48 : decode cX5_lay 48 = .ok (.iload_n 1, 1) := by decide +kernel
theorem dX5_lay_49 : decode cX5_lay 49 = .ok (.iload_n 2, 1) := by decide +kernel
theorem dX5_lay_50 : decode cX5_lay 50 = .ok (.iconst 3, 1) := by decide +kernel
theorem dX5_lay_51 : decode cX5_lay 51 = .ok (.invokestatic 37, 3) := by decide +kernel
theorem dX5_lay_54 : decode cX5_lay 54 = .ok (.iload 4, 2) := by decide +kernel
theorem dX5_lay_56 : decode cX5_lay 56 = .ok (.iastore, 1) := by decide +kernel
theorem dX5_lay_57 : decode cX5_lay 57 = .ok (.aload_n 0, 1) := by decide +kernel
theorem dX5_lay_58 : decode cX5_lay 58 = .ok (.getfield 7, 3) := by decide +kernel
theorem dX5_lay_61 : decode cX5_lay 61 = .ok (.iload_n 1, 1) := by decide +kernel
theorem dX5_lay_62 : decode cX5_lay 62 = .ok (.iload_n 2, 1) := by decide +kernel
theorem dX5_lay_63 : decode cX5_lay 63 = .ok (.iconst 4, 1) := by decide +kernel
theorem dX5_lay_64 : decode cX5_lay 64 = .ok (.invokestatic 37, 3) := by decide +kernel
theorem dX5_lay_67 : decode cX5_lay 67 = .ok (.iload 5, 2) := by decide +kernel
theorem dX5_lay_69 : decode cX5_lay 69 = .ok (.iastore, 1) := by decide +kernel
theorem dX5_lay_70 : decode cX5_lay 70 = .ok (.return_, 1) := by decide +kernel
set_option maxRecDepth 20000 in
theorem ggX5_writeFault_X5_isPlace : GoodIn wsX5_writeFault wsX5_isPlace := goodIn_r _ [6, 1, 7, 8, 5, 9, 10, 11, 12, 13, 14, 15, 16, 17, 18, 19, 20, 21, 22] (by decide +kernel) (by decide +kernel)
set_option maxRecDepth 20000 in
theorem gX5_writeFault_X5_isPlace : GoodIn wsX5_writeFault (wsV RX5 55 RX5 yX5_isPlace wsX5_isPlace) := goodIn_app (goodIn_of _ (by decide +kernel)) ggX5_writeFault_X5_isPlace
set_option maxRecDepth 20000 in
theorem ggX5_writeFault_X5_in : GoodIn wsX5_writeFault wsX5_in := goodIn_r _ [9] (by decide +kernel) (by decide +kernel)
set_option maxRecDepth 20000 in
theorem gX5_writeFault_X5_in : GoodIn wsX5_writeFault (va_wsS RX5 29 yX5_in wsX5_in) := goodIn_app (goodIn_of _ (by decide +kernel)) ggX5_writeFault_X5_in
theorem dX5_writeFault_0 : decode cX5_writeFault 0 = .ok (.aload_n 0, 1) := by decide +kernel
theorem dX5_writeFault_1 : decode cX5_writeFault 1 = .ok (.iload_n 1, 1) := by decide +kernel
theorem dX5_writeFault_2 : decode cX5_writeFault 2 = .ok (.invokevirtual 55, 3) := by decide +kernel
theorem dX5_writeFault_5 : decode cX5_writeFault 5 = .ok (.ifCond .ne 7, 3) := by decide +kernel
theorem dX5_writeFault_8 : decode cX5_writeFault 8 = .ok (.iconst (-1), 1) := by decide +kernel
theorem dX5_writeFault_9 : decode cX5_writeFault 9 = .ok (.goto 40, 3) := by decide +kernel
theorem dX5_writeFault_12 : decode cX5_writeFault 12 = .ok (.iload_n 2, 1) := by decide +kernel
theorem dX5_writeFault_13 : decode cX5_writeFault 13 = .ok (.iconst 0, 1) := by decide +kernel
theorem dX5_writeFault_14 : decode cX5_writeFault 14 = .ok (.sipush 9999, 3) := by decide +kernel
theorem dX5_writeFault_17 : decode cX5_writeFault 17 = .ok (.invokestatic 29, 3) := by decide +kernel
theorem dX5_writeFault_20 : decode cX5_writeFault 20 = .ok (.ifCond .ne 8, 3) := by decide +kernel
theorem dX5_writeFault_23 : decode cX5_writeFault 23 = .ok (.bipush (-2), 2) := by decide +kernel
theorem dX5_writeFault_25 : decode cX5_writeFault 25 = .ok (.goto 24, 3) := by decide +kernel
theorem dX5_writeFault_28 : decode cX5_writeFault 28 = .ok (.aload_n 0, 1) := by decide +kernel
theorem dX5_writeFault_29 : decode cX5_writeFault 29 = .ok (.getfield 7, 3) := by decide +kernel
theorem dX5_writeFault_32 : decode cX5_writeFault 32 = .ok (.bipush 8, 2) := by decide +kernel
theorem dX5_writeFault_34 : decode cX5_writeFault 34 = .ok (.iload_n 1, 1) := by decide +kernel
theorem dX5_writeFault_35 : decode cX5_writeFault 35 = .ok (.iadd, 1) := by decide +kernel
theorem dX5_writeFault_36 : decode cX5_writeFault 36 = .ok (.iaload, 1) := by decide +kernel
theorem dX5_writeFault_37 : decode cX5_writeFault 37 = .ok (.sipush 999, 3) := by decide +kernel
theorem dX5_writeFault_40 : decode cX5_writeFault 40 = .ok (.if_icmp .ne 8, 3) := by decide +kernel
theorem dX5_writeFault_43 : decode cX5_writeFault 43 = .ok (.bipush (-4), 2) := by decide +kernel
theorem dX5_writeFault_45 : decode cX5_writeFault 45 = .ok (.goto 4, 3) := by decide +kernel
theorem dX5_writeFault_48 : decode cX5_writeFault 48 = .ok (.iconst 0, 1) := by decide +kernel
theorem dX5_writeFault_49 : decode cX5_writeFault 49 = .ok (.ireturn, 1) := by decide +kernel
set_option maxRecDepth 20000 in
theorem ggX5_writes_X5_sumOf : GoodIn wsX5_writes wsX5_sumOf := goodIn_r _ [5] (by decide +kernel) (by decide +kernel)
set_option maxRecDepth 20000 in
theorem gX5_writes_X5_sumOf : GoodIn wsX5_writes (va_wsS RX5 41 yX5_sumOf wsX5_sumOf) := goodIn_app (goodIn_of _ (by decide +kernel)) ggX5_writes_X5_sumOf
set_option maxRecDepth 20000 in
theorem ggX5_writes_X5_lay : GoodIn wsX5_writes wsX5_lay := goodIn_r _ [9, 1, 10, 11, 4, 12, 13, 14, 15, 16, 17, 18, 19, 20, 21, 22, 23, 24, 25] (by decide +kernel) (by decide +kernel)
set_option maxRecDepth 20000 in
theorem gX5_writes_X5_lay : GoodIn wsX5_writes (wsV RX5 59 RX5 yX5_lay wsX5_lay) := goodIn_app (goodIn_of _ (by decide +kernel)) ggX5_writes_X5_lay
theorem dX5_writes_0 : decode cX5_writes 0 = .ok (.aload_n 0, 1) := by decide +kernel
theorem dX5_writes_1 : decode cX5_writes 1 = .ok (.getfield 7, 3) := by decide +kernel
theorem dX5_writes_4 : decode cX5_writes 4 = .ok (.bipush 8, 2) := by decide +kernel
theorem dX5_writes_6 : decode cX5_writes 6 = .ok (.iload_n 1, 1) := by decide +kernel
theorem dX5_writes_7 : decode cX5_writes 7 = .ok (.iadd, 1) := by decide +kernel
theorem dX5_writes_8 : decode cX5_writes 8 = .ok (.dup2, 1) := by decide +kernel
theorem dX5_writes_9 : decode cX5_writes 9 = .ok (.iaload, 1) := by decide +kernel
theorem dX5_writes_10 : decode cX5_writes 10 = .ok (.iconst 1, 1) := by decide +kernel
theorem dX5_writes_11 : decode cX5_writes 11 = .ok (.iadd, 1) := by decide +kernel
theorem dX5_writes_12 : decode cX5_writes 12 = .ok (.iastore, 1) := by decide +kernel
theorem dX5_writes_13 : decode cX5_writes 13 = .ok (.aload_n 0, 1) := by decide +kernel
theorem dX5_writes_14 : decode cX5_writes 14 = .ok (.getfield 7, 3) := by decide +kernel
theorem dX5_writes_17 : decode cX5_writes 17 = .ok (.iconst 3, 1) := by decide +kernel
theorem dX5_writes_18 : decode cX5_writes 18 = .ok (.dup2, 1) := by decide +kernel
theorem dX5_writes_19 : decode cX5_writes 19 = .ok (.iaload, 1) := by decide +kernel
theorem dX5_writes_20 : decode cX5_writes 20 = .ok (.iconst 1, 1) := by decide +kernel
theorem dX5_writes_21 : decode cX5_writes 21 = .ok (.iadd, 1) := by decide +kernel
theorem dX5_writes_22 : decode cX5_writes 22 = .ok (.iastore, 1) := by decide +kernel
theorem dX5_writes_23 : decode cX5_writes 23 = .ok (.iload_n 1, 1) := by decide +kernel
theorem dX5_writes_24 : decode cX5_writes 24 = .ok (.aload_n 0, 1) := by decide +kernel
theorem dX5_writes_25 : decode cX5_writes 25 = .ok (.getfield 7, 3) := by decide +kernel
theorem dX5_writes_28 : decode cX5_writes 28 = .ok (.bipush 8, 2) := by decide +kernel
theorem dX5_writes_30 : decode cX5_writes 30 = .ok (.iload_n 1, 1) := by decide +kernel
theorem dX5_writes_31 : decode cX5_writes 31 = .ok (.iadd, 1) := by decide +kernel
theorem dX5_writes_32 : decode cX5_writes 32 = .ok (.iaload, 1) := by decide +kernel
theorem dX5_writes_33 : decode cX5_writes 33 = .ok (.iload_n 2, 1) := by decide +kernel
theorem dX5_writes_34 : decode cX5_writes 34 = .ok (.invokestatic 41, 3) := by decide +kernel
theorem dX5_writes_37 : decode cX5_writes 37 = .ok (.istore_n 3, 1) := by decide +kernel
theorem dX5_writes_38 : decode cX5_writes 38 = .ok (.iload_n 1, 1) := by decide +kernel
theorem dX5_writes_39 : decode cX5_writes 39 = .ok (.iconst 1, 1) := by decide +kernel
theorem dX5_writes_40 : decode cX5_writes 40 = .ok (.iadd, 1) := by decide +kernel
theorem dX5_writes_41 : decode cX5_writes 41 = .ok (.aload_n 0, 1) := by decide +kernel
theorem dX5_writes_42 : decode cX5_writes 42 = .ok (.getfield 7, 3) := by decide +kernel
theorem dX5_writes_45 : decode cX5_writes 45 = .ok (.iconst 0, 1) := by decide +kernel
theorem dX5_writes_46 : decode cX5_writes 46 = .ok (.iaload, 1) := by decide +kernel
theorem dX5_writes_47 : decode cX5_writes 47 = .ok (.irem, 1) := by decide +kernel
theorem dX5_writes_48 : decode cX5_writes 48 = .ok (.istore 4, 2) := by decide +kernel
theorem dX5_writes_50 : decode cX5_writes 50 = .ok (.iconst 0, 1) := by decide +kernel
theorem dX5_writes_51 : decode cX5_writes 51 = .ok (.istore 5, 2) := by decide +kernel
theorem dX5_writes_53 : decode cX5_writes 53 = .ok (.iload 5, 2) := by decide +kernel
theorem dX5_writes_55 : decode cX5_writes 55 = .ok (.iconst 2, 1) := by decide +kernel
theorem dX5_writes_56 : decode cX5_writes 56 = .ok (.if_icmp .ge 91, 3) := by decide +kernel
theorem dX5_writes_59 : decode cX5_writes 59 = .ok (.aload_n 0, 1) := by decide +kernel
theorem dX5_writes_60 : decode cX5_writes 60 = .ok (.getfield 7, 3) := by decide +kernel
theorem dX5_writes_63 : decode cX5_writes 63 = .ok (.iconst 1, 1) := by decide +kernel
theorem dX5_writes_64 : decode cX5_writes 64 = .ok (.iload 5, 2) := by decide +kernel
theorem dX5_writes_66 : decode cX5_writes 66 = .ok (.iadd, 1) := by decide +kernel
theorem dX5_writes_67 : decode cX5_writes 67 = .ok (.iaload, 1) := by decide +kernel
theorem dX5_writes_68 : decode cX5_writes 68 = .ok (.istore 6, 2) := by decide +kernel
theorem dX5_writes_70 : decode cX5_writes 70 = .ok (.aload_n 0, 1) := by decide +kernel
theorem dX5_writes_71 : decode cX5_writes 71 = .ok (.getfield 7, 3) := by decide +kernel
theorem dX5_writes_74 : decode cX5_writes 74 = .ok (.iconst 1, 1) := by decide +kernel
theorem dX5_writes_75 : decode cX5_writes 75 = .ok (.iload 5, 2) := by decide +kernel
theorem dX5_writes_77 : decode cX5_writes 77 = .ok (.iadd, 1) := by decide +kernel
theorem dX5_writes_78 : decode cX5_writes 78 = .ok (.iconst 0, 1) := by decide +kernel
theorem dX5_writes_79 : decode cX5_writes 79 = .ok (.iastore, 1) := by decide +kernel
theorem dX5_writes_80 : decode cX5_writes 80 = .ok (.iload 6, 2) := by decide +kernel
theorem dX5_writes_82 : decode cX5_writes 82 = .ok (.iconst 1, 1) := by decide +kernel
theorem dX5_writes_83 : decode cX5_writes 83 = .ok (.if_icmp .eq 35, 3) := by decide +kernel
theorem dX5_writes_86 : decode cX5_writes 86 = .ok (.iload 6, 2) := by decide +kernel
theorem dX5_writes_88 : decode cX5_writes 88 = .ok (.iconst 2, 1) := by decide +kernel
theorem dX5_writes_89 : decode cX5_writes 89 = .ok (.if_icmp .eq 29, 3) := by decide +kernel
theorem dX5_writes_92 : decode cX5_writes 92 = .ok (.aload_n 0, 1) := by decide +kernel
theorem dX5_writes_93 : decode cX5_writes 93 = .ok (.iload 5, 2) := by decide +kernel
theorem dX5_writes_95 : decode cX5_writes 95 = .ok (.iload_n 1, 1) := by decide +kernel
theorem dX5_writes_96 : decode cX5_writes 96 = .ok (.iload_n 1, 1) := by decide +kernel
theorem dX5_writes_97 : decode cX5_writes 97 = .ok (.iload 6, 2) := by decide +kernel
theorem dX5_writes_99 : decode cX5_writes 99 = .ok (.iconst 4, 1) := by decide +kernel
theorem dX5_writes_100 : decode cX5_writes 100 = .ok (.if_icmp .ne 13, 3) := by decide +kernel
theorem dX5_writes_103 : decode cX5_writes 103 = .ok (.iload_n 2, 1) := by decide +kernel
theorem dX5_writes_104 : decode cX5_writes 104 = .ok (.iconst 1, 1) := by decide +kernel
theorem dX5_writes_105 : decode cX5_writes 105 = .ok (.iadd, 1) := by decide +kernel
theorem dX5_writes_106 : decode cX5_writes 106 = .ok (.sipush 10000, 3) := by decide +kernel
theorem dX5_writes_109 : decode cX5_writes 109 = .ok (.irem, 1) := by decide +kernel
theorem dX5_writes_110 : decode cX5_writes 110 = .ok (.goto 4, 3) := by decide +kernel
theorem dX5_writes_113 : decode cX5_writes 113 = .ok (.iload_n 2, 1) := by decide +kernel
theorem dX5_writes_114 : decode cX5_writes 114 = .ok (.iload_n 3, 1) := by decide +kernel
theorem dX5_writes_115 : decode cX5_writes 115 = .ok (.invokevirtual 59, 3) := by decide +kernel
theorem dX5_writes_118 : decode cX5_writes 118 = .ok (.iload 6, 2) := by decide +kernel
theorem dX5_writes_120 : decode cX5_writes 120 = .ok (.iconst 2, 1) := by decide +kernel
theorem dX5_writes_121 : decode cX5_writes 121 = .ok (.if_icmp .eq 9, 3) := by decide +kernel
theorem dX5_writes_124 : decode cX5_writes 124 = .ok (.iload 6, 2) := by decide +kernel
theorem dX5_writes_126 : decode cX5_writes 126 = .ok (.iconst 3, 1) := by decide +kernel
theorem dX5_writes_127 : decode cX5_writes 127 = .ok (.if_icmp .ne 14, 3) := by decide +kernel
theorem dX5_writes_130 : decode cX5_writes 130 = .ok (.aload_n 0, 1) := by decide +kernel
theorem dX5_writes_131 : decode cX5_writes 131 = .ok (.iload 5, 2) := by decide +kernel
theorem dX5_writes_133 : decode cX5_writes 133 = .ok (.iload 4, 2) := by decide +kernel
theorem dX5_writes_135 : decode cX5_writes 135 = .ok (.iload_n 1, 1) := by decide +kernel
theorem dX5_writes_136 : decode cX5_writes 136 = .ok (.iload_n 2, 1) := by decide +kernel
theorem dX5_writes_137 : decode cX5_writes 137 = .ok (.iload_n 3, 1) := by decide +kernel
theorem dX5_writes_138 : decode cX5_writes 138 = .ok (.invokevirtual 59, 3) := by decide +kernel
theorem dX5_writes_141 : decode cX5_writes 141 = .ok (.iinc 5 1, 3) := by decide +kernel
theorem dX5_writes_144 : decode cX5_writes 144 = .ok (.goto (-91), 3) := by decide +kernel
theorem dX5_writes_147 : decode cX5_writes 147 = .ok (.aload_n 0, 1) := by decide +kernel
theorem dX5_writes_148 : decode cX5_writes 148 = .ok (.getfield 7, 3) := by decide +kernel
theorem dX5_writes_151 : decode cX5_writes 151 = .ok (.bipush 8, 2) := by decide +kernel
theorem dX5_writes_153 : decode cX5_writes 153 = .ok (.iload_n 1, 1) := by decide +kernel
theorem dX5_writes_154 : decode cX5_writes 154 = .ok (.iadd, 1) := by decide +kernel
theorem dX5_writes_155 : decode cX5_writes 155 = .ok (.iaload, 1) := by decide +kernel
theorem dX5_writes_156 : decode cX5_writes 156 = .ok (.ireturn, 1) := by decide +kernel
set_option maxRecDepth 20000 in
theorem ggX5_readable_X5_isBelieved : GoodIn wsX5_readable wsX5_isBelieved := goodIn_r _ [6, 1, 7, 8, 9, 5, 10, 11, 12, 13, 14, 15, 16, 17, 18, 19, 20, 21, 22, 23, 24, 25, 26, 27, 28, 29, 30, 31, 32, 33] (by decide +kernel) (by decide +kernel)
set_option maxRecDepth 20000 in
theorem gX5_readable_X5_isBelieved : GoodIn wsX5_readable (wsV RX5 52 RX5 yX5_isBelieved wsX5_isBelieved) := goodIn_app (goodIn_of _ (by decide +kernel)) ggX5_readable_X5_isBelieved
set_option maxRecDepth 20000 in
theorem ggX5_readable_X5_of : GoodIn wsX5_readable wsX5_of := goodIn_r _ [13] (by decide +kernel) (by decide +kernel)
set_option maxRecDepth 20000 in
theorem gX5_readable_X5_of : GoodIn wsX5_readable (va_wsS RX5 37 yX5_of wsX5_of) := goodIn_app (goodIn_of _ (by decide +kernel)) ggX5_readable_X5_of
theorem dX5_readable_0 : decode cX5_readable 0 = .ok (.aload_n 0, 1) := by decide +kernel
theorem dX5_readable_1 : decode cX5_readable 1 = .ok (.getfield 7, 3) := by decide +kernel
theorem dX5_readable_4 : decode cX5_readable 4 = .ok (.bipush 8, 2) := by decide +kernel
theorem dX5_readable_6 : decode cX5_readable 6 = .ok (.iload_n 1, 1) := by decide +kernel
theorem dX5_readable_7 : decode cX5_readable 7 = .ok (.iadd, 1) := by decide +kernel
theorem dX5_readable_8 : decode cX5_readable 8 = .ok (.iaload, 1) := by decide +kernel
theorem dX5_readable_9 : decode cX5_readable 9 = .ok (.ifCond .ne 5, 3) := by decide +kernel
theorem dX5_readable_12 : decode cX5_readable 12 = .ok (.iconst 0, 1) := by decide +kernel
theorem dX5_readable_13 : decode cX5_readable 13 = .ok (.ireturn, 1) := by decide +kernel
theorem dX5_readable_14 : decode cX5_readable 14 = .ok (.aload_n 0, 1) := by decide +kernel
theorem dX5_readable_15 : decode cX5_readable 15 = .ok (.iconst 0, 1) := by decide +kernel
theorem dX5_readable_16 : decode cX5_readable 16 = .ok (.iload_n 1, 1) := by decide +kernel
theorem dX5_readable_17 : decode cX5_readable 17 = .ok (.invokevirtual 52, 3) := by decide +kernel
theorem dX5_readable_20 : decode cX5_readable 20 = .ok (.ifCond .eq 17, 3) := by decide +kernel
theorem dX5_readable_23 : decode cX5_readable 23 = .ok (.aload_n 0, 1) := by decide +kernel
theorem dX5_readable_24 : decode cX5_readable 24 = .ok (.getfield 7, 3) := by decide +kernel
theorem dX5_readable_27 : decode cX5_readable 27 = .ok (.iconst 0, 1) := by decide +kernel
theorem dX5_readable_28 : decode cX5_readable 28 = .ok (.iload_n 1, 1) := by decide +kernel
theorem dX5_readable_29 : decode cX5_readable 29 = .ok (.iconst 3, 1) := by decide +kernel
theorem dX5_readable_30 : decode cX5_readable 30 = .ok (.invokestatic 37, 3) := by decide +kernel
theorem dX5_readable_33 : decode cX5_readable 33 = .ok (.iaload, 1) := by decide +kernel
theorem dX5_readable_34 : decode cX5_readable 34 = .ok (.goto 28, 3) := by decide +kernel
theorem dX5_readable_37 : decode cX5_readable 37 = .ok (.aload_n 0, 1) := by decide +kernel
theorem dX5_readable_38 : decode cX5_readable 38 = .ok (.iconst 1, 1) := by decide +kernel
theorem dX5_readable_39 : decode cX5_readable 39 = .ok (.iload_n 1, 1) := by decide +kernel
theorem dX5_readable_40 : decode cX5_readable 40 = .ok (.invokevirtual 52, 3) := by decide +kernel
theorem dX5_readable_43 : decode cX5_readable 43 = .ok (.ifCond .eq 17, 3) := by decide +kernel
theorem dX5_readable_46 : decode cX5_readable 46 = .ok (.aload_n 0, 1) := by decide +kernel
theorem dX5_readable_47 : decode cX5_readable 47 = .ok (.getfield 7, 3) := by decide +kernel
theorem dX5_readable_50 : decode cX5_readable 50 = .ok (.iconst 1, 1) := by decide +kernel
theorem dX5_readable_51 : decode cX5_readable 51 = .ok (.iload_n 1, 1) := by decide +kernel
theorem dX5_readable_52 : decode cX5_readable 52 = .ok (.iconst 3, 1) := by decide +kernel
theorem dX5_readable_53 : decode cX5_readable 53 = .ok (.invokestatic 37, 3) := by decide +kernel
theorem dX5_readable_56 : decode cX5_readable 56 = .ok (.iaload, 1) := by decide +kernel
theorem dX5_readable_57 : decode cX5_readable 57 = .ok (.goto 5, 3) := by decide +kernel
theorem dX5_readable_60 : decode cX5_readable 60 = .ok (.bipush (-6), 2) := by decide +kernel
theorem dX5_readable_62 : decode cX5_readable 62 = .ok (.ireturn, 1) := by decide +kernel
set_option maxRecDepth 20000 in
theorem ggX5_reads_X5_isBelieved : GoodIn wsX5_reads wsX5_isBelieved := goodIn_r _ [6, 1, 7, 8, 9, 5, 10, 11, 12, 13, 14, 15, 16, 17, 18, 19, 20, 29, 30, 31, 32, 33, 34, 35, 36, 37, 38, 39, 40, 41] (by decide +kernel) (by decide +kernel)
set_option maxRecDepth 20000 in
theorem gX5_reads_X5_isBelieved : GoodIn wsX5_reads (wsV RX5 52 RX5 yX5_isBelieved wsX5_isBelieved) := goodIn_app (goodIn_of _ (by decide +kernel)) ggX5_reads_X5_isBelieved
set_option maxRecDepth 20000 in
theorem ggX5_reads_X5_isLost : GoodIn wsX5_reads wsX5_isLost := goodIn_r _ [24, 1, 2, 3, 4, 5, 6, 7, 8, 9, 10, 11, 12, 13, 14, 15, 16, 17, 18, 19, 20, 29, 30, 31, 32, 33, 34, 35, 36, 37, 38, 39, 40, 41] (by decide +kernel) (by decide +kernel)
set_option maxRecDepth 20000 in
theorem gX5_reads_X5_isLost : GoodIn wsX5_reads (wsV RX5 63 RX5 yX5_isLost wsX5_isLost) := goodIn_app (goodIn_of _ (by decide +kernel)) ggX5_reads_X5_isLost
set_option maxRecDepth 20000 in
theorem ggX5_reads_X5_readable : GoodIn wsX5_reads wsX5_readable := goodIn_r _ [28, 1, 2, 3, 4, 5, 6, 7, 8, 9, 10, 11, 12, 13, 14, 15, 16, 17, 18, 19, 20, 29, 30, 31, 32, 33, 34, 35, 36, 37, 38, 39, 40, 41] (by decide +kernel) (by decide +kernel)
set_option maxRecDepth 20000 in
theorem gX5_reads_X5_readable : GoodIn wsX5_reads (wsV RX5 66 RX5 yX5_readable wsX5_readable) := goodIn_app (goodIn_of _ (by decide +kernel)) ggX5_reads_X5_readable
theorem dX5_reads_0 : decode cX5_reads 0 = .ok (.aload_n 0, 1) := by decide +kernel
theorem dX5_reads_1 : decode cX5_reads 1 = .ok (.getfield 7, 3) := by decide +kernel
theorem dX5_reads_4 : decode cX5_reads 4 = .ok (.iconst 4, 1) := by decide +kernel
theorem dX5_reads_5 : decode cX5_reads 5 = .ok (.dup2, 1) := by decide +kernel
theorem dX5_reads_6 : decode cX5_reads 6 = .ok (.iaload, 1) := by decide +kernel
theorem dX5_reads_7 : decode cX5_reads 7 = .ok (.iconst 1, 1) := by decide +kernel
theorem dX5_reads_8 : decode cX5_reads 8 = .ok (.iadd, 1) := by decide +kernel
theorem dX5_reads_9 : decode cX5_reads 9 = .ok (.iastore, 1) := by decide +kernel
theorem dX5_reads_10 : decode cX5_reads 10 = .ok (.aload_n 0, 1) := by decide +kernel
theorem dX5_reads_11 : decode cX5_reads 11 = .ok (.getfield 7, 3) := by decide +kernel
theorem dX5_reads_14 : decode cX5_reads 14 = .ok (.iconst 5, 1) := by decide +kernel
theorem dX5_reads_15 : decode cX5_reads 15 = .ok (.dup2, 1) := by decide +kernel
theorem dX5_reads_16 : decode cX5_reads 16 = .ok (.iaload, 1) := by decide +kernel
theorem dX5_reads_17 : decode cX5_reads 17 = .ok (.aload_n 0, 1) := by decide +kernel
theorem dX5_reads_18 : decode cX5_reads 18 = .ok (.getfield 7, 3) := by decide +kernel
theorem dX5_reads_21 : decode cX5_reads 21 = .ok (.bipush 8, 2) := by decide +kernel
theorem dX5_reads_23 : decode cX5_reads 23 = .ok (.iload_n 1, 1) := by decide +kernel
theorem dX5_reads_24 : decode cX5_reads 24 = .ok (.iadd, 1) := by decide +kernel
theorem dX5_reads_25 : decode cX5_reads 25 = .ok (.iaload, 1) := by decide +kernel
theorem dX5_reads_26 : decode cX5_reads 26 = .ok (.ifCond .le 16, 3) := by decide +kernel
theorem dX5_reads_29 : decode cX5_reads 29 = .ok (.aload_n 0, 1) := by decide +kernel
theorem dX5_reads_30 : decode cX5_reads 30 = .ok (.iconst 0, 1) := by decide +kernel
theorem dX5_reads_31 : decode cX5_reads 31 = .ok (.iload_n 1, 1) := by decide +kernel
theorem dX5_reads_32 : decode cX5_reads 32 = .ok (.invokevirtual 52, 3) := by decide +kernel
theorem dX5_reads_35 : decode cX5_reads 35 = .ok (.ifCond .ne 7, 3) := by decide +kernel
theorem dX5_reads_38 : decode cX5_reads 38 = .ok (.iconst 1, 1) := by decide +kernel
theorem dX5_reads_39 : decode cX5_reads 39 = .ok (.goto 4, 3) := by decide +kernel
theorem dX5_reads_42 : decode cX5_reads 42 = .ok (.iconst 0, 1) := by decide +kernel
theorem dX5_reads_43 : decode cX5_reads 43 = .ok (.iadd, 1) := by decide +kernel
theorem dX5_reads_44 : decode cX5_reads 44 = .ok (.iastore, 1) := by decide +kernel
theorem dX5_reads_45 : decode cX5_reads 45 = .ok (.aload_n 0, 1) := by decide +kernel
theorem dX5_reads_46 : decode cX5_reads 46 = .ok (.getfield 7, 3) := by decide +kernel
theorem dX5_reads_49 : decode cX5_reads 49 = .ok (.bipush 6, 2) := by decide +kernel
theorem dX5_reads_51 : decode cX5_reads 51 = .ok (.dup2, 1) := by decide +kernel
theorem dX5_reads_52 : decode cX5_reads 52 = .ok (.iaload, 1) := by decide +kernel
theorem dX5_reads_53 : decode cX5_reads 53 = .ok (.aload_n 0, 1) := by decide +kernel
theorem dX5_reads_54 : decode cX5_reads 54 = .ok (.iload_n 1, 1) := by decide +kernel
theorem dX5_reads_55 : decode cX5_reads 55 = .ok (.invokevirtual 63, 3) := by decide +kernel
theorem dX5_reads_58 : decode cX5_reads 58 = .ok (.ifCond .eq 7, 3) := by decide +kernel
theorem dX5_reads_61 : decode cX5_reads 61 = .ok (.iconst 1, 1) := by decide +kernel
theorem dX5_reads_62 : decode cX5_reads 62 = .ok (.goto 4, 3) := by decide +kernel
theorem dX5_reads_65 : decode cX5_reads 65 = .ok (.iconst 0, 1) := by decide +kernel
theorem dX5_reads_66 : decode cX5_reads 66 = .ok (.iadd, 1) := by decide +kernel
theorem dX5_reads_67 : decode cX5_reads 67 = .ok (.iastore, 1) := by decide +kernel
theorem dX5_reads_68 : decode cX5_reads 68 = .ok (.aload_n 0, 1) := by decide +kernel
theorem dX5_reads_69 : decode cX5_reads 69 = .ok (.iload_n 1, 1) := by decide +kernel
theorem dX5_reads_70 : decode cX5_reads 70 = .ok (.invokevirtual 66, 3) := by decide +kernel
theorem dX5_reads_73 : decode cX5_reads 73 = .ok (.ireturn, 1) := by decide +kernel
set_option maxRecDepth 20000 in
theorem ggX5_mends_X5_canMend : GoodIn wsX5_mends wsX5_canMend := goodIn_r _ [6, 7, 8, 9, 5, 10, 1, 11, 12, 13, 14, 15, 16, 17, 18, 19, 20, 21, 22, 23, 24, 25, 26, 27, 28, 29, 30, 31, 32, 33, 34, 35, 36, 37] (by decide +kernel) (by decide +kernel)
set_option maxRecDepth 20000 in
theorem gX5_mends_X5_canMend : GoodIn wsX5_mends (wsV RX5 70 RX5 yX5_canMend wsX5_canMend) := goodIn_app (goodIn_of _ (by decide +kernel)) ggX5_mends_X5_canMend
set_option maxRecDepth 20000 in
theorem ggX5_mends_X5_isBelieved : GoodIn wsX5_mends wsX5_isBelieved := goodIn_r _ [10, 1, 11, 12, 13, 5, 14, 15, 16, 17, 18, 19, 20, 21, 22, 23, 24, 25, 26, 27, 28, 29, 30, 31, 32, 33, 34, 35, 36, 37] (by decide +kernel) (by decide +kernel)
set_option maxRecDepth 20000 in
theorem gX5_mends_X5_isBelieved : GoodIn wsX5_mends (wsV RX5 52 RX5 yX5_isBelieved wsX5_isBelieved) := goodIn_app (goodIn_of _ (by decide +kernel)) ggX5_mends_X5_isBelieved
set_option maxRecDepth 20000 in
theorem ggX5_mends_X5_of : GoodIn wsX5_mends wsX5_of := goodIn_r _ [17] (by decide +kernel) (by decide +kernel)
set_option maxRecDepth 20000 in
theorem gX5_mends_X5_of : GoodIn wsX5_mends (va_wsS RX5 37 yX5_of wsX5_of) := goodIn_app (goodIn_of _ (by decide +kernel)) ggX5_mends_X5_of
theorem dX5_mends_0 : decode cX5_mends 0 = .ok (.aload_n 0, 1) := by decide +kernel
theorem dX5_mends_1 : decode cX5_mends 1 = .ok (.iload_n 1, 1) := by decide +kernel
theorem dX5_mends_2 : decode cX5_mends 2 = .ok (.invokevirtual 70, 3) := by decide +kernel
theorem dX5_mends_5 : decode cX5_mends 5 = .ok (.ifCond .ne 5, 3) := by decide +kernel
theorem dX5_mends_8 : decode cX5_mends 8 = .ok (.iconst 0, 1) := by decide +kernel
theorem dX5_mends_9 : decode cX5_mends 9 = .ok (.ireturn, 1) := by decide +kernel
theorem dX5_mends_10 : decode cX5_mends 10 = .ok (.aload_n 0, 1) := by decide +kernel
theorem dX5_mends_11 : decode cX5_mends 11 = .ok (.iconst 0, 1) := by decide +kernel
theorem dX5_mends_12 : decode cX5_mends 12 = .ok (.iload_n 1, 1) := by decide +kernel
theorem dX5_mends_13 : decode cX5_mends 13 = .ok (.invokevirtual 52, 3) := by decide +kernel
theorem dX5_mends_16 : decode cX5_mends 16 = .ok (.ifCond .eq 7, 3) := by decide +kernel
theorem dX5_mends_19 : decode cX5_mends 19 = .ok (.iconst 1, 1) := by decide +kernel
theorem dX5_mends_20 : decode cX5_mends 20 = .ok (.goto 4, 3) := by decide +kernel
theorem dX5_mends_23 : decode cX5_mends 23 = .ok (.iconst 0, 1) := by decide +kernel
theorem dX5_mends_24 : decode cX5_mends 24 = .ok (.istore_n 2, 1) := by decide +kernel
theorem dX5_mends_25 : decode cX5_mends 25 = .ok (.iconst 0, 1) := by decide +kernel
theorem dX5_mends_26 : decode cX5_mends 26 = .ok (.istore_n 3, 1) := by decide +kernel
theorem dX5_mends_27 : decode cX5_mends 27 = .ok (.iload_n 3, 1) := by decide +kernel
theorem dX5_mends_28 : decode cX5_mends 28 = .ok (.iconst 5, 1) := by decide +kernel
theorem dX5_mends_29 : decode cX5_mends 29 = .ok (.if_icmp .ge 33, 3) := by decide +kernel
theorem dX5_mends_32 : decode cX5_mends 32 = .ok (.aload_n 0, 1) := by decide +kernel
theorem dX5_mends_33 : decode cX5_mends 33 = .ok (.getfield 7, 3) := by decide +kernel
theorem dX5_mends_36 : decode cX5_mends 36 = .ok (.iload_n 2, 1) := by decide +kernel
theorem dX5_mends_37 : decode cX5_mends 37 = .ok (.iload_n 1, 1) := by decide +kernel
theorem dX5_mends_38 : decode cX5_mends 38 = .ok (.iload_n 3, 1) := by decide +kernel
theorem dX5_mends_39 : decode cX5_mends 39 = .ok (.invokestatic 37, 3) := by decide +kernel
theorem dX5_mends_42 : decode cX5_mends 42 = .ok (.aload_n 0, 1) := by decide +kernel
theorem dX5_mends_43 : decode cX5_mends 43 = .ok (.getfield 7, 3) := by decide +kernel
theorem dX5_mends_46 : decode cX5_mends 46 = .ok (.iconst 1, 1) := by decide +kernel
theorem dX5_mends_47 : decode cX5_mends 47 = .ok (.iload_n 2, 1) := by decide +kernel
theorem dX5_mends_48 : decode cX5_mends 48 = .ok (.isub, 1) := by decide +kernel
theorem dX5_mends_49 : decode cX5_mends 49 = .ok (.iload_n 1, 1) := by decide +kernel
theorem dX5_mends_50 : decode cX5_mends 50 = .ok (.iload_n 3, 1) := by decide +kernel
theorem dX5_mends_51 : decode cX5_mends 51 = .ok (.invokestatic 37, 3) := by decide +kernel
theorem dX5_mends_54 : decode cX5_mends 54 = .ok (.iaload, 1) := by decide +kernel
theorem dX5_mends_55 : decode cX5_mends 55 = .ok (.iastore, 1) := by decide +kernel
theorem dX5_mends_56 : decode cX5_mends 56 = .ok (.iinc 3 1, 3) := by decide +kernel
theorem dX5_mends_59 : decode cX5_mends 59 = .ok (.goto (-32), 3) := by decide +kernel
theorem dX5_mends_62 : decode cX5_mends 62 = .ok (.aload_n 0, 1) := by decide +kernel
theorem dX5_mends_63 : decode cX5_mends 63 = .ok (.getfield 7, 3) := by decide +kernel
theorem dX5_mends_66 : decode cX5_mends 66 = .ok (.bipush 7, 2) := by decide +kernel
theorem dX5_mends_68 : decode cX5_mends 68 = .ok (.dup2, 1) := by decide +kernel
theorem dX5_mends_69 : decode cX5_mends 69 = .ok (.iaload, 1) := by decide +kernel
theorem dX5_mends_70 : decode cX5_mends 70 = .ok (.iconst 1, 1) := by decide +kernel
theorem dX5_mends_71 : decode cX5_mends 71 = .ok (.iadd, 1) := by decide +kernel
theorem dX5_mends_72 : decode cX5_mends 72 = .ok (.iastore, 1) := by decide +kernel
theorem dX5_mends_73 : decode cX5_mends 73 = .ok (.iload_n 2, 1) := by decide +kernel
theorem dX5_mends_74 : decode cX5_mends 74 = .ok (.iconst 1, 1) := by decide +kernel
theorem dX5_mends_75 : decode cX5_mends 75 = .ok (.iadd, 1) := by decide +kernel
theorem dX5_mends_76 : decode cX5_mends 76 = .ok (.ireturn, 1) := by decide +kernel
set_option maxRecDepth 20000 in
theorem ggX5_scrubs_X5_mends : GoodIn wsX5_scrubs wsX5_mends := goodIn_r _ [6, 1, 7, 8, 9, 5, 10, 11, 12, 13, 14, 15, 16, 17, 18, 19, 20, 21, 22, 23, 24, 25, 26, 27, 28, 29, 30, 31, 32, 33, 34, 35, 36, 37, 38, 39, 40, 41] (by decide +kernel) (by decide +kernel)
set_option maxRecDepth 20000 in
theorem gX5_scrubs_X5_mends : GoodIn wsX5_scrubs (wsV RX5 73 RX5 yX5_mends wsX5_mends) := goodIn_app (goodIn_of _ (by decide +kernel)) ggX5_scrubs_X5_mends
theorem dX5_scrubs_0 : decode cX5_scrubs 0 = .ok (.iconst 0, 1) := by decide +kernel
theorem dX5_scrubs_1 : decode cX5_scrubs 1 = .ok (.istore_n 1, 1) := by decide +kernel
theorem dX5_scrubs_2 : decode cX5_scrubs 2 = .ok (.iconst 0, 1) := by decide +kernel
theorem dX5_scrubs_3 : decode cX5_scrubs 3 = .ok (.istore_n 2, 1) := by decide +kernel
theorem dX5_scrubs_4 : decode cX5_scrubs 4 = .ok (.iload_n 2, 1) := by decide +kernel
theorem dX5_scrubs_5 : decode cX5_scrubs 5 = .ok (.aload_n 0, 1) := by decide +kernel
theorem dX5_scrubs_6 : decode cX5_scrubs 6 = .ok (.getfield 7, 3) := by decide +kernel
theorem dX5_scrubs_9 : decode cX5_scrubs 9 = .ok (.iconst 0, 1) := by decide +kernel
theorem dX5_scrubs_10 : decode cX5_scrubs 10 = .ok (.iaload, 1) := by decide +kernel
theorem dX5_scrubs_11 : decode cX5_scrubs 11 = .ok (.if_icmp .ge 25, 3) := by decide +kernel
theorem dX5_scrubs_14 : decode cX5_scrubs 14 = .ok (.iload_n 1, 1) := by decide +kernel
theorem dX5_scrubs_15 : decode cX5_scrubs 15 = .ok (.aload_n 0, 1) := by decide +kernel
theorem dX5_scrubs_16 : decode cX5_scrubs 16 = .ok (.iload_n 2, 1) := by decide +kernel
theorem dX5_scrubs_17 : decode cX5_scrubs 17 = .ok (.invokevirtual 73, 3) := by decide +kernel
theorem dX5_scrubs_20 : decode cX5_scrubs 20 = .ok (.ifCond .le 7, 3) := by decide +kernel
theorem dX5_scrubs_23 : decode cX5_scrubs 23 = .ok (.iconst 1, 1) := by decide +kernel
theorem dX5_scrubs_24 : decode cX5_scrubs 24 = .ok (.goto 4, 3) := by decide +kernel
theorem dX5_scrubs_27 : decode cX5_scrubs 27 = .ok (.iconst 0, 1) := by decide +kernel
theorem dX5_scrubs_28 : decode cX5_scrubs 28 = .ok (.iadd, 1) := by decide +kernel
theorem dX5_scrubs_29 : decode cX5_scrubs 29 = .ok (.istore_n 1, 1) := by decide +kernel
theorem dX5_scrubs_30 : decode cX5_scrubs 30 = .ok (.iinc 2 1, 3) := by decide +kernel
theorem dX5_scrubs_33 : decode cX5_scrubs 33 = .ok (.goto (-29), 3) := by decide +kernel
theorem dX5_scrubs_36 : decode cX5_scrubs 36 = .ok (.iload_n 1, 1) := by decide +kernel
theorem dX5_scrubs_37 : decode cX5_scrubs 37 = .ok (.ireturn, 1) := by decide +kernel
set_option maxRecDepth 20000 in
theorem ggX5_awaitFault_X5_in : GoodIn wsX5_awaitFault wsX5_in := goodIn_r _ [4] (by decide +kernel) (by decide +kernel)
set_option maxRecDepth 20000 in
theorem gX5_awaitFault_X5_in : GoodIn wsX5_awaitFault (va_wsS RX5 29 yX5_in wsX5_in) := goodIn_app (goodIn_of _ (by decide +kernel)) ggX5_awaitFault_X5_in
theorem dX5_awaitFault_0 : decode cX5_awaitFault 0 = .ok (.iload_n 1, 1) := by decide +kernel
theorem dX5_awaitFault_1 : decode cX5_awaitFault 1 = .ok (.iconst 0, 1) := by decide +kernel
theorem dX5_awaitFault_2 : decode cX5_awaitFault 2 = .ok (.iconst 1, 1) := by decide +kernel
theorem dX5_awaitFault_3 : decode cX5_awaitFault 3 = .ok (.invokestatic 29, 3) := by decide +kernel
theorem dX5_awaitFault_6 : decode cX5_awaitFault 6 = .ok (.ifCond .ne 7, 3) := by decide +kernel
theorem dX5_awaitFault_9 : decode cX5_awaitFault 9 = .ok (.iconst (-1), 1) := by decide +kernel
theorem dX5_awaitFault_10 : decode cX5_awaitFault 10 = .ok (.goto 18, 3) := by decide +kernel
theorem dX5_awaitFault_13 : decode cX5_awaitFault 13 = .ok (.iload_n 2, 1) := by decide +kernel
theorem dX5_awaitFault_14 : decode cX5_awaitFault 14 = .ok (.iconst 0, 1) := by decide +kernel
theorem dX5_awaitFault_15 : decode cX5_awaitFault 15 = .ok (.iconst 4, 1) := by decide +kernel
theorem dX5_awaitFault_16 : decode cX5_awaitFault 16 = .ok (.invokestatic 29, 3) := by decide +kernel
theorem dX5_awaitFault_19 : decode cX5_awaitFault 19 = .ok (.ifCond .eq 7, 3) := by decide +kernel
theorem dX5_awaitFault_22 : decode cX5_awaitFault 22 = .ok (.iconst 0, 1) := by decide +kernel
theorem dX5_awaitFault_23 : decode cX5_awaitFault 23 = .ok (.goto 5, 3) := by decide +kernel
theorem dX5_awaitFault_26 : decode cX5_awaitFault 26 = .ok (.bipush (-2), 2) := by decide +kernel
theorem dX5_awaitFault_28 : decode cX5_awaitFault 28 = .ok (.ireturn, 1) := by decide +kernel
theorem dX5_awaits_0 : decode cX5_awaits 0 = .ok (.aload_n 0, 1) := by decide +kernel
theorem dX5_awaits_1 : decode cX5_awaits 1 = .ok (.getfield 7, 3) := by decide +kernel
theorem dX5_awaits_4 : decode cX5_awaits 4 = .ok (.iconst 1, 1) := by decide +kernel
theorem dX5_awaits_5 : decode cX5_awaits 5 = .ok (.iload_n 1, 1) := by decide +kernel
theorem dX5_awaits_6 : decode cX5_awaits 6 = .ok (.iadd, 1) := by decide +kernel
theorem dX5_awaits_7 : decode cX5_awaits 7 = .ok (.iaload, 1) := by decide +kernel
theorem dX5_awaits_8 : decode cX5_awaits 8 = .ok (.istore_n 3, 1) := by decide +kernel
theorem dX5_awaits_9 : decode cX5_awaits 9 = .ok (.aload_n 0, 1) := by decide +kernel
theorem dX5_awaits_10 : decode cX5_awaits 10 = .ok (.getfield 7, 3) := by decide +kernel
theorem dX5_awaits_13 : decode cX5_awaits 13 = .ok (.iconst 1, 1) := by decide +kernel
theorem dX5_awaits_14 : decode cX5_awaits 14 = .ok (.iload_n 1, 1) := by decide +kernel
theorem dX5_awaits_15 : decode cX5_awaits 15 = .ok (.iadd, 1) := by decide +kernel
theorem dX5_awaits_16 : decode cX5_awaits 16 = .ok (.iload_n 2, 1) := by decide +kernel
theorem dX5_awaits_17 : decode cX5_awaits 17 = .ok (.iastore, 1) := by decide +kernel
theorem dX5_awaits_18 : decode cX5_awaits 18 = .ok (.iload_n 3, 1) := by decide +kernel
theorem dX5_awaits_19 : decode cX5_awaits 19 = .ok (.ireturn, 1) := by decide +kernel
set_option maxRecDepth 20000 in
theorem ggX5_wipeFault_X5_in : GoodIn wsX5_wipeFault wsX5_in := goodIn_r _ [4] (by decide +kernel) (by decide +kernel)
set_option maxRecDepth 20000 in
theorem gX5_wipeFault_X5_in : GoodIn wsX5_wipeFault (va_wsS RX5 29 yX5_in wsX5_in) := goodIn_app (goodIn_of _ (by decide +kernel)) ggX5_wipeFault_X5_in
set_option maxRecDepth 20000 in
theorem ggX5_wipeFault_X5_isPlace : GoodIn wsX5_wipeFault wsX5_isPlace := goodIn_r _ [8, 9, 1, 2, 3, 4, 10, 11, 12, 13, 14, 15, 16, 17, 18, 19, 20, 21, 22] (by decide +kernel) (by decide +kernel)
set_option maxRecDepth 20000 in
theorem gX5_wipeFault_X5_isPlace : GoodIn wsX5_wipeFault (wsV RX5 55 RX5 yX5_isPlace wsX5_isPlace) := goodIn_app (goodIn_of _ (by decide +kernel)) ggX5_wipeFault_X5_isPlace
theorem dX5_wipeFault_0 : decode cX5_wipeFault 0 = .ok (.iload_n 1, 1) := by decide +kernel
theorem dX5_wipeFault_1 : decode cX5_wipeFault 1 = .ok (.iconst 0, 1) := by decide +kernel
theorem dX5_wipeFault_2 : decode cX5_wipeFault 2 = .ok (.iconst 1, 1) := by decide +kernel
theorem dX5_wipeFault_3 : decode cX5_wipeFault 3 = .ok (.invokestatic 29, 3) := by decide +kernel
theorem dX5_wipeFault_6 : decode cX5_wipeFault 6 = .ok (.ifCond .eq 15, 3) := by decide +kernel
theorem dX5_wipeFault_9 : decode cX5_wipeFault 9 = .ok (.aload_n 0, 1) := by decide +kernel
theorem dX5_wipeFault_10 : decode cX5_wipeFault 10 = .ok (.iload_n 2, 1) := by decide +kernel
theorem dX5_wipeFault_11 : decode cX5_wipeFault 11 = .ok (.invokevirtual 55, 3) := by decide +kernel
theorem dX5_wipeFault_14 : decode cX5_wipeFault 14 = .ok (.ifCond .eq 7, 3) := by decide +kernel
theorem dX5_wipeFault_17 : decode cX5_wipeFault 17 = .ok (.iconst 0, 1) := by decide +kernel
theorem dX5_wipeFault_18 : decode cX5_wipeFault 18 = .ok (.goto 4, 3) := by decide +kernel
theorem dX5_wipeFault_21 : decode cX5_wipeFault 21 = .ok (.iconst (-1), 1) := by decide +kernel
theorem dX5_wipeFault_22 : decode cX5_wipeFault 22 = .ok (.ireturn, 1) := by decide +kernel
set_option maxRecDepth 20000 in
theorem ggX5_wipes_X5_of : GoodIn wsX5_wipes wsX5_of := goodIn_r _ [5] (by decide +kernel) (by decide +kernel)
set_option maxRecDepth 20000 in
theorem gX5_wipes_X5_of : GoodIn wsX5_wipes (va_wsS RX5 37 yX5_of wsX5_of) := goodIn_app (goodIn_of _ (by decide +kernel)) ggX5_wipes_X5_of
theorem dX5_wipes_0 : decode cX5_wipes 0 = .ok (.aload_n 0, 1) := by decide +kernel
theorem dX5_wipes_1 : decode cX5_wipes 1 = .ok (.getfield 7, 3) := by decide +kernel
theorem dX5_wipes_4 : decode cX5_wipes 4 = .ok (.iload_n 1, 1) := by decide +kernel
theorem dX5_wipes_5 : decode cX5_wipes 5 = .ok (.iload_n 2, 1) := by decide +kernel
theorem dX5_wipes_6 : decode cX5_wipes 6 = .ok (.iconst 0, 1) := by decide +kernel
theorem dX5_wipes_7 : decode cX5_wipes 7 = .ok (.invokestatic 37, 3) := by decide +kernel
theorem dX5_wipes_10 : decode cX5_wipes 10 = .ok (.iaload, 1) := by decide +kernel
theorem dX5_wipes_11 : decode cX5_wipes 11 = .ok (.istore_n 3, 1) := by decide +kernel
theorem dX5_wipes_12 : decode cX5_wipes 12 = .ok (.aload_n 0, 1) := by decide +kernel
theorem dX5_wipes_13 : decode cX5_wipes 13 = .ok (.getfield 7, 3) := by decide +kernel
theorem dX5_wipes_16 : decode cX5_wipes 16 = .ok (.iload_n 1, 1) := by decide +kernel
theorem dX5_wipes_17 : decode cX5_wipes 17 = .ok (.iload_n 2, 1) := by decide +kernel
theorem dX5_wipes_18 : decode cX5_wipes 18 = .ok (.iconst 0, 1) := by decide +kernel
theorem dX5_wipes_19 : decode cX5_wipes 19 = .ok (.invokestatic 37, 3) := by decide +kernel
theorem dX5_wipes_22 : decode cX5_wipes 22 = .ok (.iconst 0, 1) := by decide +kernel
theorem dX5_wipes_23 : decode cX5_wipes 23 = .ok (.iastore, 1) := by decide +kernel
theorem dX5_wipes_24 : decode cX5_wipes 24 = .ok (.iload_n 3, 1) := by decide +kernel
theorem dX5_wipes_25 : decode cX5_wipes 25 = .ok (.ireturn, 1) := by decide +kernel
set_option maxRecDepth 20000 in
theorem ggX5_resize_X5_in : GoodIn wsX5_resize wsX5_in := goodIn_r _ [5] (by decide +kernel) (by decide +kernel)
