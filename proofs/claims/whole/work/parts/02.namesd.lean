theorem dX3_receive_110 : decode cX3_receive 110 = .ok (.goto 4, 3) := by decide +kernel
theorem dX3_receive_113 : decode cX3_receive 113 = .ok (.iconst 0, 1) := by decide +kernel
theorem dX3_receive_114 : decode cX3_receive 114 = .ok (.iload 5, 2) := by decide +kernel
theorem dX3_receive_116 : decode cX3_receive 116 = .ok (.invokevirtual 44, 3) := by decide +kernel
theorem dX3_receive_119 : decode cX3_receive 119 = .ok (.goto 14, 3) := by decide +kernel
theorem dX3_receive_122 : decode cX3_receive 122 = .ok (.aload_n 0, 1) := by decide +kernel
theorem dX3_receive_123 : decode cX3_receive 123 = .ok (.iload_n 1, 1) := by decide +kernel
theorem dX3_receive_124 : decode cX3_receive 124 = .ok (.iload_n 1, 1) := by decide +kernel
theorem dX3_receive_125 : decode cX3_receive 125 = .ok (.iload_n 3, 1) := by decide +kernel
theorem dX3_receive_126 : decode cX3_receive 126 = .ok (.iload 4, 2) := by decide +kernel
theorem dX3_receive_128 : decode cX3_receive 128 = .ok (.iload 5, 2) := by decide +kernel
theorem dX3_receive_130 : decode cX3_receive 130 = .ok (.invokevirtual 44, 3) := by decide +kernel
theorem dX3_receive_133 : decode cX3_receive 133 = .ok (.return_, 1) := by decide +kernel
theorem dX3_lay_0 : decode cX3_lay 0 = .ok (.iload_n 1, 1) := by decide +kernel
theorem dX3_lay_1 : decode cX3_lay 1 = .ok (.ifCond .lt 9, 3) := by decide +kernel
theorem dX3_lay_4 : decode cX3_lay 4 = .ok (.iload_n 1, 1) := by decide +kernel
theorem dX3_lay_5 : decode cX3_lay 5 = .ok (.bipush 32, 2) := by decide +kernel
theorem dX3_lay_7 : decode cX3_lay 7 = .ok (.if_icmp .lt 4, 3) := by decide +kernel
theorem dX3_lay_10 : decode cX3_lay 10 = .ok (.return_, 1) := by decide +kernel
theorem dX3_lay_11 : decode cX3_lay 11 = .ok (.aload_n 0, 1) := by decide +kernel
theorem dX3_lay_12 : decode cX3_lay 12 = .ok (.getfield 9, 3) := by decide +kernel
theorem dX3_lay_15 : decode cX3_lay 15 = .ok (.iload_n 1, 1) := by decide +kernel
theorem dX3_lay_16 : decode cX3_lay 16 = .ok (.iload_n 2, 1) := by decide +kernel
theorem dX3_lay_17 : decode cX3_lay 17 = .ok (.iastore, 1) := by decide +kernel
theorem dX3_lay_18 : decode cX3_lay 18 = .ok (.aload_n 0, 1) := by decide +kernel
theorem dX3_lay_19 : decode cX3_lay 19 = .ok (.getfield 15, 3) := by decide +kernel
theorem dX3_lay_22 : decode cX3_lay 22 = .ok (.iload_n 1, 1) := by decide +kernel
theorem dX3_lay_23 : decode cX3_lay 23 = .ok (.iload_n 3, 1) := by decide +kernel
theorem dX3_lay_24 : decode cX3_lay 24 = .ok (.iastore, 1) := by decide +kernel
theorem dX3_lay_25 : decode cX3_lay 25 = .ok (.aload_n 0, 1) := by decide +kernel
theorem dX3_lay_26 : decode cX3_lay 26 = .ok (.getfield 18, 3) := by decide +kernel
theorem dX3_lay_29 : decode cX3_lay 29 = .ok (.iload_n 1, 1) := by decide +kernel
theorem dX3_lay_30 : decode cX3_lay 30 = .ok (.iload 4, 2) := by decide +kernel
theorem dX3_lay_32 : decode cX3_lay 32 = .ok (.iastore, 1) := by decide +kernel
theorem dX3_lay_33 : decode cX3_lay 33 = .ok (.aload_n 0, 1) := by decide +kernel
theorem dX3_lay_34 : decode cX3_lay 34 = .ok (.getfield 21, 3) := by decide +kernel
theorem dX3_lay_37 : decode cX3_lay 37 = .ok (.iload_n 1, 1) := by decide +kernel
theorem dX3_lay_38 : decode cX3_lay 38 = .ok (.iload 5, 2) := by decide +kernel
theorem dX3_lay_40 : decode cX3_lay 40 = .ok (.iastore, 1) := by decide +kernel
theorem dX3_lay_41 : decode cX3_lay 41 = .ok (.return_, 1) := by decide +kernel
theorem dX3_lies_0 : decode cX3_lies 0 = .ok (.iload_n 1, 1) := by decide +kernel
theorem dX3_lies_1 : decode cX3_lies 1 = .ok (.ifCond .lt 22, 3) := by decide +kernel
theorem dX3_lies_4 : decode cX3_lies 4 = .ok (.iload_n 1, 1) := by decide +kernel
theorem dX3_lies_5 : decode cX3_lies 5 = .ok (.bipush 32, 2) := by decide +kernel
theorem dX3_lies_7 : decode cX3_lies 7 = .ok (.if_icmp .ge 16, 3) := by decide +kernel
theorem dX3_lies_10 : decode cX3_lies 10 = .ok (.aload_n 0, 1) := by decide +kernel
theorem dX3_lies_11 : decode cX3_lies 11 = .ok (.getfield 15, 3) := by decide +kernel
theorem dX3_lies_14 : decode cX3_lies 14 = .ok (.iload_n 1, 1) := by decide +kernel
theorem dX3_lies_15 : decode cX3_lies 15 = .ok (.iaload, 1) := by decide +kernel
theorem dX3_lies_16 : decode cX3_lies 16 = .ok (.ifCond .eq 7, 3) := by decide +kernel
theorem dX3_lies_19 : decode cX3_lies 19 = .ok (.iconst 1, 1) := by decide +kernel
theorem dX3_lies_20 : decode cX3_lies 20 = .ok (.goto 4, 3) := by decide +kernel
theorem dX3_lies_23 : decode cX3_lies 23 = .ok (.iconst 0, 1) := by decide +kernel
theorem dX3_lies_24 : decode cX3_lies 24 = .ok (.ireturn, 1) := by decide +kernel
set_option maxRecDepth 20000 in
theorem ggX3_take_X3_lies : GoodIn wsX3_take wsX3_lies := goodIn_r _ [6, 1, 7, 8, 9, 10, 11] (by decide +kernel) (by decide +kernel)
set_option maxRecDepth 20000 in
theorem gX3_take_X3_lies : GoodIn wsX3_take (wsV RX3 48 RX3 yX3_lies wsX3_lies) := goodIn_app (goodIn_of _ (by decide +kernel)) ggX3_take_X3_lies
theorem dX3_take_0 : decode cX3_take 0 = .ok (.aload_n 0, 1) := by decide +kernel
theorem dX3_take_1 : decode cX3_take 1 = .ok (.iload_n 1, 1) := by decide +kernel
theorem dX3_take_2 : decode cX3_take 2 = .ok (.invokevirtual 48, 3) := by decide +kernel
theorem dX3_take_5 : decode cX3_take 5 = .ok (.ifCond .ne 5, 3) := by decide +kernel
theorem dX3_take_8 : decode cX3_take 8 = .ok (.iconst 0, 1) := by decide +kernel
theorem dX3_take_9 : decode cX3_take 9 = .ok (.ireturn, 1) := by decide +kernel
theorem dX3_take_10 : decode cX3_take 10 = .ok (.aload_n 0, 1) := by decide +kernel
theorem dX3_take_11 : decode cX3_take 11 = .ok (.getfield 15, 3) := by decide +kernel
theorem dX3_take_14 : decode cX3_take 14 = .ok (.iload_n 1, 1) := by decide +kernel
theorem dX3_take_15 : decode cX3_take 15 = .ok (.iconst 0, 1) := by decide +kernel
theorem dX3_take_16 : decode cX3_take 16 = .ok (.iastore, 1) := by decide +kernel
theorem dX3_take_17 : decode cX3_take 17 = .ok (.iconst 1, 1) := by decide +kernel
theorem dX3_take_18 : decode cX3_take 18 = .ok (.ireturn, 1) := by decide +kernel
set_option maxRecDepth 20000 in
theorem ggX3_copyBlock_X3_lies : GoodIn wsX3_copyBlock wsX3_lies := goodIn_r _ [9, 2, 14, 15, 16, 17, 18] (by decide +kernel) (by decide +kernel)
set_option maxRecDepth 20000 in
theorem gX3_copyBlock_X3_lies : GoodIn wsX3_copyBlock (wsV RX3 48 RX3 yX3_lies wsX3_lies) := goodIn_app (goodIn_of _ (by decide +kernel)) ggX3_copyBlock_X3_lies
set_option maxRecDepth 20000 in
theorem ggX3_copyBlock_X3_lay : GoodIn wsX3_copyBlock wsX3_lay := goodIn_r _ [13, 1, 2, 3, 4, 14, 15, 16, 17, 18] (by decide +kernel) (by decide +kernel)
set_option maxRecDepth 20000 in
theorem gX3_copyBlock_X3_lay : GoodIn wsX3_copyBlock (wsV RX3 44 RX3 yX3_lay wsX3_lay) := goodIn_app (goodIn_of _ (by decide +kernel)) ggX3_copyBlock_X3_lay
theorem dX3_copyBlock_0 : decode cX3_copyBlock 0 = .ok (.aload_n 1, 1) := by decide +kernel
theorem dX3_copyBlock_1 : decode cX3_copyBlock 1 = .ok (.iload_n 2, 1) := by decide +kernel
theorem dX3_copyBlock_2 : decode cX3_copyBlock 2 = .ok (.invokevirtual 48, 3) := by decide +kernel
theorem dX3_copyBlock_5 : decode cX3_copyBlock 5 = .ok (.ifCond .eq 32, 3) := by decide +kernel
theorem dX3_copyBlock_8 : decode cX3_copyBlock 8 = .ok (.aload_n 0, 1) := by decide +kernel
theorem dX3_copyBlock_9 : decode cX3_copyBlock 9 = .ok (.iload_n 2, 1) := by decide +kernel
theorem dX3_copyBlock_10 : decode cX3_copyBlock 10 = .ok (.aload_n 1, 1) := by decide +kernel
theorem dX3_copyBlock_11 : decode cX3_copyBlock 11 = .ok (.getfield 9, 3) := by decide +kernel
theorem dX3_copyBlock_14 : decode cX3_copyBlock 14 = .ok (.iload_n 2, 1) := by decide +kernel
theorem dX3_copyBlock_15 : decode cX3_copyBlock 15 = .ok (.iaload, 1) := by decide +kernel
theorem dX3_copyBlock_16 : decode cX3_copyBlock 16 = .ok (.aload_n 1, 1) := by decide +kernel
theorem dX3_copyBlock_17 : decode cX3_copyBlock 17 = .ok (.getfield 15, 3) := by decide +kernel
theorem dX3_copyBlock_20 : decode cX3_copyBlock 20 = .ok (.iload_n 2, 1) := by decide +kernel
theorem dX3_copyBlock_21 : decode cX3_copyBlock 21 = .ok (.iaload, 1) := by decide +kernel
theorem dX3_copyBlock_22 : decode cX3_copyBlock 22 = .ok (.aload_n 1, 1) := by decide +kernel
theorem dX3_copyBlock_23 : decode cX3_copyBlock 23 = .ok (.getfield 18, 3) := by decide +kernel
theorem dX3_copyBlock_26 : decode cX3_copyBlock 26 = .ok (.iload_n 2, 1) := by decide +kernel
theorem dX3_copyBlock_27 : decode cX3_copyBlock 27 = .ok (.iaload, 1) := by decide +kernel
theorem dX3_copyBlock_28 : decode cX3_copyBlock 28 = .ok (.aload_n 1, 1) := by decide +kernel
theorem dX3_copyBlock_29 : decode cX3_copyBlock 29 = .ok (.getfield 21, 3) := by decide +kernel
theorem dX3_copyBlock_32 : decode cX3_copyBlock 32 = .ok (.iload_n 2, 1) := by decide +kernel
theorem dX3_copyBlock_33 : decode cX3_copyBlock 33 = .ok (.iaload, 1) := by decide +kernel
theorem dX3_copyBlock_34 : decode cX3_copyBlock 34 = .ok (.invokevirtual 44, 3) := by decide +kernel
theorem dX3_copyBlock_37 : decode cX3_copyBlock 37 = .ok (.return_, 1) := by decide +kernel
set_option maxRecDepth 20000 in
theorem ggX3_isWhole_X3_lies : GoodIn wsX3_isWhole wsX3_lies := goodIn_r _ [9, 3, 13, 14, 15, 16, 17] (by decide +kernel) (by decide +kernel)
set_option maxRecDepth 20000 in
theorem gX3_isWhole_X3_lies : GoodIn wsX3_isWhole (wsV RX3 48 RX3 yX3_lies wsX3_lies) := goodIn_app (goodIn_of _ (by decide +kernel)) ggX3_isWhole_X3_lies
set_option maxRecDepth 20000 in
theorem ggX3_isWhole_X3_sumOf : GoodIn wsX3_isWhole wsX3_sumOf := goodIn_r _ [12] (by decide +kernel) (by decide +kernel)
set_option maxRecDepth 20000 in
theorem gX3_isWhole_X3_sumOf : GoodIn wsX3_isWhole (va_wsS RX3 40 yX3_sumOf wsX3_sumOf) := goodIn_app (goodIn_of _ (by decide +kernel)) ggX3_isWhole_X3_sumOf
theorem dX3_isWhole_0 : decode cX3_isWhole 0 = .ok (.aload_n 0, 1) := by decide +kernel
theorem dX3_isWhole_1 : decode cX3_isWhole 1 = .ok (.iload_n 1, 1) := by decide +kernel
theorem dX3_isWhole_2 : decode cX3_isWhole 2 = .ok (.invokevirtual 48, 3) := by decide +kernel
theorem dX3_isWhole_5 : decode cX3_isWhole 5 = .ok (.ifCond .eq 37, 3) := by decide +kernel
theorem dX3_isWhole_8 : decode cX3_isWhole 8 = .ok (.aload_n 0, 1) := by decide +kernel
theorem dX3_isWhole_9 : decode cX3_isWhole 9 = .ok (.getfield 21, 3) := by decide +kernel
theorem dX3_isWhole_12 : decode cX3_isWhole 12 = .ok (.iload_n 1, 1) := by decide +kernel
theorem dX3_isWhole_13 : decode cX3_isWhole 13 = .ok (.iaload, 1) := by decide +kernel
theorem dX3_isWhole_14 : decode cX3_isWhole 14 = .ok (.aload_n 0, 1) := by decide +kernel
theorem dX3_isWhole_15 : decode cX3_isWhole 15 = .ok (.getfield 9, 3) := by decide +kernel
theorem dX3_isWhole_18 : decode cX3_isWhole 18 = .ok (.iload_n 1, 1) := by decide +kernel
theorem dX3_isWhole_19 : decode cX3_isWhole 19 = .ok (.iaload, 1) := by decide +kernel
theorem dX3_isWhole_20 : decode cX3_isWhole 20 = .ok (.aload_n 0, 1) := by decide +kernel
theorem dX3_isWhole_21 : decode cX3_isWhole 21 = .ok (.getfield 15, 3) := by decide +kernel
theorem dX3_isWhole_24 : decode cX3_isWhole 24 = .ok (.iload_n 1, 1) := by decide +kernel
theorem dX3_isWhole_25 : decode cX3_isWhole 25 = .ok (.iaload, 1) := by decide +kernel
theorem dX3_isWhole_26 : decode cX3_isWhole 26 = .ok (.aload_n 0, 1) := by decide +kernel
theorem dX3_isWhole_27 : decode cX3_isWhole 27 = .ok (.getfield 18, 3) := by decide +kernel
theorem dX3_isWhole_30 : decode cX3_isWhole 30 = .ok (.iload_n 1, 1) := by decide +kernel
theorem dX3_isWhole_31 : decode cX3_isWhole 31 = .ok (.iaload, 1) := by decide +kernel
theorem dX3_isWhole_32 : decode cX3_isWhole 32 = .ok (.invokestatic 40, 3) := by decide +kernel
theorem dX3_isWhole_35 : decode cX3_isWhole 35 = .ok (.if_icmp .ne 7, 3) := by decide +kernel
theorem dX3_isWhole_38 : decode cX3_isWhole 38 = .ok (.iconst 1, 1) := by decide +kernel
theorem dX3_isWhole_39 : decode cX3_isWhole 39 = .ok (.goto 4, 3) := by decide +kernel
theorem dX3_isWhole_42 : decode cX3_isWhole 42 = .ok (.iconst 0, 1) := by decide +kernel
theorem dX3_isWhole_43 : decode cX3_isWhole 43 = .ok (.ireturn, 1) := by decide +kernel
set_option maxRecDepth 20000 in
theorem ggX3_isOfOtherAddress_X3_lies : GoodIn wsX3_isOfOtherAddress wsX3_lies := goodIn_r _ [6, 7, 8, 9, 10, 11, 12] (by decide +kernel) (by decide +kernel)
set_option maxRecDepth 20000 in
theorem gX3_isOfOtherAddress_X3_lies : GoodIn wsX3_isOfOtherAddress (wsV RX3 48 RX3 yX3_lies wsX3_lies) := goodIn_app (goodIn_of _ (by decide +kernel)) ggX3_isOfOtherAddress_X3_lies
theorem dX3_isOfOtherAddress_0 : decode cX3_isOfOtherAddress 0 = .ok (.aload_n 0, 1) := by decide +kernel
theorem dX3_isOfOtherAddress_1 : decode cX3_isOfOtherAddress 1 = .ok (.iload_n 1, 1) := by decide +kernel
theorem dX3_isOfOtherAddress_2 : decode cX3_isOfOtherAddress 2 = .ok (.invokevirtual 48, 3) := by decide +kernel
theorem dX3_isOfOtherAddress_5 : decode cX3_isOfOtherAddress 5 = .ok (.ifCond .eq 17, 3) := by decide +kernel
theorem dX3_isOfOtherAddress_8 : decode cX3_isOfOtherAddress 8 = .ok (.aload_n 0, 1) := by decide +kernel
theorem dX3_isOfOtherAddress_9 : decode cX3_isOfOtherAddress 9 = .ok (.getfield 9, 3) := by decide +kernel
theorem dX3_isOfOtherAddress_12 : decode cX3_isOfOtherAddress 12 = .ok (.iload_n 1, 1) := by decide +kernel
theorem dX3_isOfOtherAddress_13 : decode cX3_isOfOtherAddress 13 = .ok (.iaload, 1) := by decide +kernel
theorem dX3_isOfOtherAddress_14 : decode cX3_isOfOtherAddress 14 = .ok (.iload_n 1, 1) := by decide +kernel
theorem dX3_isOfOtherAddress_15 : decode cX3_isOfOtherAddress 15 = .ok (.if_icmp .eq 7, 3) := by decide +kernel
theorem dX3_isOfOtherAddress_18 : decode cX3_isOfOtherAddress 18 = .ok (.iconst 1, 1) := by decide +kernel
theorem dX3_isOfOtherAddress_19 : decode cX3_isOfOtherAddress 19 = .ok (.goto 4, 3) := by decide +kernel
theorem dX3_isOfOtherAddress_22 : decode cX3_isOfOtherAddress 22 = .ok (.iconst 0, 1) := by decide +kernel
theorem dX3_isOfOtherAddress_23 : decode cX3_isOfOtherAddress 23 = .ok (.ireturn, 1) := by decide +kernel
set_option maxRecDepth 20000 in
theorem ggX3_reasonAgainst_X3_lies : GoodIn wsX3_reasonAgainst wsX3_lies := goodIn_r _ [9, 3, 13, 14, 15, 16, 17] (by decide +kernel) (by decide +kernel)
set_option maxRecDepth 20000 in
theorem gX3_reasonAgainst_X3_lies : GoodIn wsX3_reasonAgainst (wsV RX3 48 RX3 yX3_lies wsX3_lies) := goodIn_app (goodIn_of _ (by decide +kernel)) ggX3_reasonAgainst_X3_lies
set_option maxRecDepth 20000 in
theorem ggX3_reasonAgainst_X3_sumOf : GoodIn wsX3_reasonAgainst wsX3_sumOf := goodIn_r _ [12] (by decide +kernel) (by decide +kernel)
set_option maxRecDepth 20000 in
theorem gX3_reasonAgainst_X3_sumOf : GoodIn wsX3_reasonAgainst (va_wsS RX3 40 yX3_sumOf wsX3_sumOf) := goodIn_app (goodIn_of _ (by decide +kernel)) ggX3_reasonAgainst_X3_sumOf
theorem dX3_reasonAgainst_0 : decode cX3_reasonAgainst 0 = .ok (.aload_n 0, 1) := by decide +kernel
theorem dX3_reasonAgainst_1 : decode cX3_reasonAgainst 1 = .ok (.iload_n 1, 1) := by decide +kernel
theorem dX3_reasonAgainst_2 : decode cX3_reasonAgainst 2 = .ok (.invokevirtual 48, 3) := by decide +kernel
theorem dX3_reasonAgainst_5 : decode cX3_reasonAgainst 5 = .ok (.ifCond .ne 5, 3) := by decide +kernel
theorem dX3_reasonAgainst_8 : decode cX3_reasonAgainst 8 = .ok (.iconst 1, 1) := by decide +kernel
theorem dX3_reasonAgainst_9 : decode cX3_reasonAgainst 9 = .ok (.ireturn, 1) := by decide +kernel
theorem dX3_reasonAgainst_10 : decode cX3_reasonAgainst 10 = .ok (.aload_n 0, 1) := by decide +kernel
theorem dX3_reasonAgainst_11 : decode cX3_reasonAgainst 11 = .ok (.getfield 21, 3) := by decide +kernel
theorem dX3_reasonAgainst_14 : decode cX3_reasonAgainst 14 = .ok (.iload_n 1, 1) := by decide +kernel
theorem dX3_reasonAgainst_15 : decode cX3_reasonAgainst 15 = .ok (.iaload, 1) := by decide +kernel
theorem dX3_reasonAgainst_16 : decode cX3_reasonAgainst 16 = .ok (.aload_n 0, 1) := by decide +kernel
theorem dX3_reasonAgainst_17 : decode cX3_reasonAgainst 17 = .ok (.getfield 9, 3) := by decide +kernel
theorem dX3_reasonAgainst_20 : decode cX3_reasonAgainst 20 = .ok (.iload_n 1, 1) := by decide +kernel
theorem dX3_reasonAgainst_21 : decode cX3_reasonAgainst 21 = .ok (.iaload, 1) := by decide +kernel
theorem dX3_reasonAgainst_22 : decode cX3_reasonAgainst 22 = .ok (.aload_n 0, 1) := by decide +kernel
theorem dX3_reasonAgainst_23 : decode cX3_reasonAgainst 23 = .ok (.getfield 15, 3) := by decide +kernel
theorem dX3_reasonAgainst_26 : decode cX3_reasonAgainst 26 = .ok (.iload_n 1, 1) := by decide +kernel
theorem dX3_reasonAgainst_27 : decode cX3_reasonAgainst 27 = .ok (.iaload, 1) := by decide +kernel
theorem dX3_reasonAgainst_28 : decode cX3_reasonAgainst 28 = .ok (.aload_n 0, 1) := by decide +kernel
theorem dX3_reasonAgainst_29 : decode cX3_reasonAgainst 29 = .ok (.getfield 18, 3) := by decide +kernel
theorem dX3_reasonAgainst_32 : decode cX3_reasonAgainst 32 = .ok (.iload_n 1, 1) := by decide +kernel
theorem dX3_reasonAgainst_33 : decode cX3_reasonAgainst 33 = .ok (.iaload, 1) := by decide +kernel
theorem dX3_reasonAgainst_34 : decode cX3_reasonAgainst 34 = .ok (.invokestatic 40, 3) := by decide +kernel
theorem dX3_reasonAgainst_37 : decode cX3_reasonAgainst 37 = .ok (.if_icmp .eq 5, 3) := by decide +kernel
theorem dX3_reasonAgainst_40 : decode cX3_reasonAgainst 40 = .ok (.iconst 2, 1) := by decide +kernel
theorem dX3_reasonAgainst_41 : decode cX3_reasonAgainst 41 = .ok (.ireturn, 1) := by decide +kernel
theorem dX3_reasonAgainst_42 : decode cX3_reasonAgainst 42 = .ok (.aload_n 0, 1) := by decide +kernel
theorem dX3_reasonAgainst_43 : decode cX3_reasonAgainst 43 = .ok (.getfield 9, 3) := by decide +kernel
theorem dX3_reasonAgainst_46 : decode cX3_reasonAgainst 46 = .ok (.iload_n 1, 1) := by decide +kernel
theorem dX3_reasonAgainst_47 : decode cX3_reasonAgainst 47 = .ok (.iaload, 1) := by decide +kernel
theorem dX3_reasonAgainst_48 : decode cX3_reasonAgainst 48 = .ok (.iload_n 1, 1) := by decide +kernel
theorem dX3_reasonAgainst_49 : decode cX3_reasonAgainst 49 = .ok (.if_icmp .eq 5, 3) := by decide +kernel
theorem dX3_reasonAgainst_52 : decode cX3_reasonAgainst 52 = .ok (.iconst 3, 1) := by decide +kernel
theorem dX3_reasonAgainst_53 : decode cX3_reasonAgainst 53 = .ok (.ireturn, 1) := by decide +kernel
theorem dX3_reasonAgainst_54 : decode cX3_reasonAgainst 54 = .ok (.aload_n 0, 1) := by decide +kernel
theorem dX3_reasonAgainst_55 : decode cX3_reasonAgainst 55 = .ok (.getfield 15, 3) := by decide +kernel
theorem dX3_reasonAgainst_58 : decode cX3_reasonAgainst 58 = .ok (.iload_n 1, 1) := by decide +kernel
theorem dX3_reasonAgainst_59 : decode cX3_reasonAgainst 59 = .ok (.iaload, 1) := by decide +kernel
theorem dX3_reasonAgainst_60 : decode cX3_reasonAgainst 60 = .ok (.iload_n 2, 1) := by decide +kernel
theorem dX3_reasonAgainst_61 : decode cX3_reasonAgainst 61 = .ok (.if_icmp .ne 7, 3) := by decide +kernel
theorem dX3_reasonAgainst_64 : decode cX3_reasonAgainst 64 = .ok (.iconst 0, 1) := by decide +kernel
theorem dX3_reasonAgainst_65 : decode cX3_reasonAgainst 65 = .ok (.goto 4, 3) := by decide +kernel
theorem dX3_reasonAgainst_68 : decode cX3_reasonAgainst 68 = .ok (.iconst 4, 1) := by decide +kernel
theorem dX3_reasonAgainst_69 : decode cX3_reasonAgainst 69 = .ok (.ireturn, 1) := by decide +kernel
set_option maxRecDepth 20000 in
theorem ggX3_dataAt_X3_lies : GoodIn wsX3_dataAt wsX3_lies := goodIn_r _ [6, 7, 8, 9, 10, 11, 12] (by decide +kernel) (by decide +kernel)
set_option maxRecDepth 20000 in
theorem gX3_dataAt_X3_lies : GoodIn wsX3_dataAt (wsV RX3 48 RX3 yX3_lies wsX3_lies) := goodIn_app (goodIn_of _ (by decide +kernel)) ggX3_dataAt_X3_lies
theorem dX3_dataAt_0 : decode cX3_dataAt 0 = .ok (.aload_n 0, 1) := by decide +kernel
theorem dX3_dataAt_1 : decode cX3_dataAt 1 = .ok (.iload_n 1, 1) := by decide +kernel
theorem dX3_dataAt_2 : decode cX3_dataAt 2 = .ok (.invokevirtual 48, 3) := by decide +kernel
theorem dX3_dataAt_5 : decode cX3_dataAt 5 = .ok (.ifCond .eq 12, 3) := by decide +kernel
theorem dX3_dataAt_8 : decode cX3_dataAt 8 = .ok (.aload_n 0, 1) := by decide +kernel
theorem dX3_dataAt_9 : decode cX3_dataAt 9 = .ok (.getfield 18, 3) := by decide +kernel
theorem dX3_dataAt_12 : decode cX3_dataAt 12 = .ok (.iload_n 1, 1) := by decide +kernel
theorem dX3_dataAt_13 : decode cX3_dataAt 13 = .ok (.iaload, 1) := by decide +kernel
theorem dX3_dataAt_14 : decode cX3_dataAt 14 = .ok (.goto 5, 3) := by decide +kernel
theorem dX3_dataAt_17 : decode cX3_dataAt 17 = .ok (.bipush (-6), 2) := by decide +kernel
theorem dX3_dataAt_19 : decode cX3_dataAt 19 = .ok (.ireturn, 1) := by decide +kernel
set_option maxRecDepth 20000 in
theorem ggX3_part_X3_isWhole : GoodIn wsX3_part wsX3_isWhole := goodIn_r _ [9, 4, 1, 2, 3, 10, 11, 12, 8, 13, 14, 15, 16, 17, 18, 19, 20, 21] (by decide +kernel) (by decide +kernel)
set_option maxRecDepth 20000 in
theorem gX3_part_X3_isWhole : GoodIn wsX3_part (wsV RX3 52 RX3 yX3_isWhole wsX3_isWhole) := goodIn_app (goodIn_of _ (by decide +kernel)) ggX3_part_X3_isWhole
set_option maxRecDepth 20000 in
theorem ggX3_part_X3_lies : GoodIn wsX3_part wsX3_lies := goodIn_r _ [13, 2, 17, 18, 19, 20, 21] (by decide +kernel) (by decide +kernel)
set_option maxRecDepth 20000 in
theorem gX3_part_X3_lies : GoodIn wsX3_part (wsV RX3 48 RX3 yX3_lies wsX3_lies) := goodIn_app (goodIn_of _ (by decide +kernel)) ggX3_part_X3_lies
theorem dX3_part_0 : decode cX3_part 0 = .ok (.iload_n 2, 1) := by decide +kernel
theorem dX3_part_1 : decode cX3_part 1 = .ok (.iconst 4, 1) := by decide +kernel
theorem dX3_part_2 : decode cX3_part 2 = .ok (.if_icmp .ne 17, 3) := by decide +kernel
theorem dX3_part_5 : decode cX3_part 5 = .ok (.aload_n 0, 1) := by decide +kernel
theorem dX3_part_6 : decode cX3_part 6 = .ok (.iload_n 1, 1) := by decide +kernel
theorem dX3_part_7 : decode cX3_part 7 = .ok (.invokevirtual 52, 3) := by decide +kernel
theorem dX3_part_10 : decode cX3_part 10 = .ok (.ifCond .eq 7, 3) := by decide +kernel
theorem dX3_part_13 : decode cX3_part 13 = .ok (.iconst 1, 1) := by decide +kernel
theorem dX3_part_14 : decode cX3_part 14 = .ok (.goto 4, 3) := by decide +kernel
theorem dX3_part_17 : decode cX3_part 17 = .ok (.iconst 0, 1) := by decide +kernel
theorem dX3_part_18 : decode cX3_part 18 = .ok (.ireturn, 1) := by decide +kernel
theorem dX3_part_19 : decode cX3_part 19 = .ok (.aload_n 0, 1) := by decide +kernel
theorem dX3_part_20 : decode cX3_part 20 = .ok (.iload_n 1, 1) := by decide +kernel
theorem dX3_part_21 : decode cX3_part 21 = .ok (.invokevirtual 48, 3) := by decide +kernel
theorem dX3_part_24 : decode cX3_part 24 = .ok (.ifCond .ne 6, 3) := by decide +kernel
theorem dX3_part_27 : decode cX3_part 27 = .ok (.bipush (-6), 2) := by decide +kernel
theorem dX3_part_29 : decode cX3_part 29 = .ok (.ireturn, 1) := by decide +kernel
theorem dX3_part_30 : decode cX3_part 30 = .ok (.iload_n 2, 1) := by decide +kernel
theorem dX3_part_31 : decode cX3_part 31 = .ok (.tableswitch 46 0 2 #[25, 32, 39], 25) := by decide +kernel
theorem dX3_part_56 : decode cX3_part 56 = .ok (.aload_n 0, 1) := by decide +kernel
theorem dX3_part_57 : decode cX3_part 57 = .ok (.getfield 9, 3) := by decide +kernel
theorem dX3_part_60 : decode cX3_part 60 = .ok (.iload_n 1, 1) := by decide +kernel
theorem dX3_part_61 : decode cX3_part 61 = .ok (.iaload, 1) := by decide +kernel
theorem dX3_part_62 : decode cX3_part 62 = .ok (.ireturn, 1) := by decide +kernel
theorem dX3_part_63 : decode cX3_part 63 = .ok (.aload_n 0, 1) := by decide +kernel
theorem dX3_part_64 : decode cX3_part 64 = .ok (.getfield 15, 3) := by decide +kernel
theorem dX3_part_67 : decode cX3_part 67 = .ok (.iload_n 1, 1) := by decide +kernel
theorem dX3_part_68 : decode cX3_part 68 = .ok (.iaload, 1) := by decide +kernel
theorem dX3_part_69 : decode cX3_part 69 = .ok (.ireturn, 1) := by decide +kernel
theorem dX3_part_70 : decode cX3_part 70 = .ok (.aload_n 0, 1) := by decide +kernel
theorem dX3_part_71 : decode cX3_part 71 = .ok (.getfield 18, 3) := by decide +kernel
theorem dX3_part_74 : decode cX3_part 74 = .ok (.iload_n 1, 1) := by decide +kernel
theorem dX3_part_75 : decode cX3_part 75 = .ok (.iaload, 1) := by decide +kernel
theorem dX3_part_76 : decode cX3_part 76 = .ok (.ireturn, 1) := by decide +kernel
theorem dX3_part_77 : decode cX3_part 77 = .ok (.aload_n 0, 1) := by decide +kernel
theorem dX3_part_78 : decode cX3_part 78 = .ok (.getfield 21, 3) := by decide +kernel
theorem dX3_part_81 : decode cX3_part 81 = .ok (.iload_n 1, 1) := by decide +kernel
theorem dX3_part_82 : decode cX3_part 82 = .ok (.iaload, 1) := by decide +kernel
theorem dX3_part_83 : decode cX3_part 83 = .ok (.ireturn, 1) := by decide +kernel
theorem dX3_sumOf_0 : decode cX3_sumOf 0 = .ok (.bipush 7, 2) := by decide +kernel
theorem dX3_sumOf_2 : decode cX3_sumOf 2 = .ok (.iload_n 0, 1) := by decide +kernel
theorem dX3_sumOf_3 : decode cX3_sumOf 3 = .ok (.imul, 1) := by decide +kernel
theorem dX3_sumOf_4 : decode cX3_sumOf 4 = .ok (.bipush 13, 2) := by decide +kernel
theorem dX3_sumOf_6 : decode cX3_sumOf 6 = .ok (.iload_n 1, 1) := by decide +kernel
theorem dX3_sumOf_7 : decode cX3_sumOf 7 = .ok (.imul, 1) := by decide +kernel
theorem dX3_sumOf_8 : decode cX3_sumOf 8 = .ok (.iadd, 1) := by decide +kernel
theorem dX3_sumOf_9 : decode cX3_sumOf 9 = .ok (.iload_n 2, 1) := by decide +kernel
theorem dX3_sumOf_10 : decode cX3_sumOf 10 = .ok (.iadd, 1) := by decide +kernel
theorem dX3_sumOf_11 : decode cX3_sumOf 11 = .ok (.bipush 97, 2) := by decide +kernel
theorem dX3_sumOf_13 : decode cX3_sumOf 13 = .ok (.irem, 1) := by decide +kernel
theorem dX3_sumOf_14 : decode cX3_sumOf 14 = .ok (.ireturn, 1) := by decide +kernel
set_option maxRecDepth 20000 in
theorem ggX4_init_X0_init : GoodIn wsX4_init wsX0_init := goodIn_r _ [20, 21, 2, 3, 22, 23, 24, 25, 26, 27, 28, 29, 30, 31, 32, 33, 34, 35, 36, 37, 51, 52, 53, 54, 55, 56, 57, 58, 59, 78, 79, 80, 81, 82] (by decide +kernel) (by decide +kernel)
set_option maxRecDepth 20000 in
theorem gX4_init_X0_init_n9 : GoodIn wsX4_init (wsX0_init) := ggX4_init_X0_init
set_option maxRecDepth 20000 in
theorem ggX4_init_X1_init : GoodIn wsX4_init wsX1_init := goodIn_r _ [39, 40, 2, 3, 41, 42, 5, 6, 19, 20, 21, 22, 23, 24, 25, 26, 27, 28, 29, 30, 31, 32, 33, 34, 35, 36, 37, 68, 69, 70, 51, 52, 53, 54, 55, 56, 57, 58, 59, 78, 79, 80, 81, 82] (by decide +kernel) (by decide +kernel)
set_option maxRecDepth 20000 in
theorem gX4_init_X1_init_n27 : GoodIn wsX4_init (wsX1_init) := ggX4_init_X1_init
set_option maxRecDepth 20000 in
theorem ggX4_init_X2_init : GoodIn wsX4_init wsX2_init := goodIn_r _ [44, 45, 2, 3, 46, 47, 23, 48, 49, 50, 71, 72, 73, 74, 75, 76, 77] (by decide +kernel) (by decide +kernel)
set_option maxRecDepth 20000 in
theorem gX4_init_X2_init_n34 : GoodIn wsX4_init (wsX2_init) := ggX4_init_X2_init
theorem dX4_init_0 : decode cX4_init 0 = .ok (.aload_n 0, 1) := by decide +kernel
theorem dX4_init_1 : decode cX4_init 1 = .ok (.invokespecial 1, 3) := by decide +kernel
theorem dX4_init_4 : decode cX4_init 4 = .ok (.aload_n 0, 1) := by decide +kernel
theorem dX4_init_5 : decode cX4_init 5 = .ok (.new 7, 3) := by decide +kernel
theorem dX4_init_8 : decode cX4_init 8 = .ok (.dup, 1) := by decide +kernel
theorem dX4_init_9 : decode cX4_init 9 = .ok (.invokespecial 9, 3) := by decide +kernel
theorem dX4_init_12 : decode cX4_init 12 = .ok (.putfield 10, 3) := by decide +kernel
theorem dX4_init_15 : decode cX4_init 15 = .ok (.aload_n 0, 1) := by decide +kernel
theorem dX4_init_16 : decode cX4_init 16 = .ok (.new 7, 3) := by decide +kernel
theorem dX4_init_19 : decode cX4_init 19 = .ok (.dup, 1) := by decide +kernel
theorem dX4_init_20 : decode cX4_init 20 = .ok (.invokespecial 9, 3) := by decide +kernel
theorem dX4_init_23 : decode cX4_init 23 = .ok (.putfield 16, 3) := by decide +kernel
theorem dX4_init_26 : decode cX4_init 26 = .ok (.aload_n 0, 1) := by decide +kernel
theorem dX4_init_27 : decode cX4_init 27 = .ok (.new 7, 3) := by decide +kernel
theorem dX4_init_30 : decode cX4_init 30 = .ok (.dup, 1) := by decide +kernel
theorem dX4_init_31 : decode cX4_init 31 = .ok (.invokespecial 9, 3) := by decide +kernel
theorem dX4_init_34 : decode cX4_init 34 = .ok (.putfield 19, 3) := by decide +kernel
theorem dX4_init_37 : decode cX4_init 37 = .ok (.aload_n 0, 1) := by decide +kernel
theorem dX4_init_38 : decode cX4_init 38 = .ok (.new 7, 3) := by decide +kernel
theorem dX4_init_41 : decode cX4_init 41 = .ok (.dup, 1) := by decide +kernel
theorem dX4_init_42 : decode cX4_init 42 = .ok (.invokespecial 9, 3) := by decide +kernel
theorem dX4_init_45 : decode cX4_init 45 = .ok (.putfield 22, 3) := by decide +kernel
theorem dX4_init_48 : decode cX4_init 48 = .ok (.aload_n 0, 1) := by decide +kernel
theorem dX4_init_49 : decode cX4_init 49 = .ok (.new 25, 3) := by decide +kernel
theorem dX4_init_52 : decode cX4_init 52 = .ok (.dup, 1) := by decide +kernel
theorem dX4_init_53 : decode cX4_init 53 = .ok (.invokespecial 27, 3) := by decide +kernel
theorem dX4_init_56 : decode cX4_init 56 = .ok (.putfield 28, 3) := by decide +kernel
theorem dX4_init_59 : decode cX4_init 59 = .ok (.aload_n 0, 1) := by decide +kernel
theorem dX4_init_60 : decode cX4_init 60 = .ok (.new 32, 3) := by decide +kernel
theorem dX4_init_63 : decode cX4_init 63 = .ok (.dup, 1) := by decide +kernel
theorem dX4_init_64 : decode cX4_init 64 = .ok (.invokespecial 34, 3) := by decide +kernel
theorem dX4_init_67 : decode cX4_init 67 = .ok (.putfield 35, 3) := by decide +kernel
theorem dX4_init_70 : decode cX4_init 70 = .ok (.return_, 1) := by decide +kernel
set_option maxRecDepth 20000 in
theorem ggX4_resize_X1_prepare : GoodIn wsX4_resize wsX1_prepare := goodIn_r _ [6, 7, 8, 9, 4, 10, 11, 12, 13, 14, 15, 16, 17, 18, 19, 20, 21, 22, 23, 24, 25, 26, 27, 28, 29, 30, 31, 32, 33, 34, 35, 36, 37, 38, 39, 66, 67, 68, 69, 70, 71, 72, 73, 74, 75, 76, 77, 78, 79, 80, 81, 82] (by decide +kernel) (by decide +kernel)
set_option maxRecDepth 20000 in
theorem gX4_resize_X1_prepare_n39 : GoodIn wsX4_resize (wsX1_prepare) := ggX4_resize_X1_prepare
set_option maxRecDepth 20000 in
theorem ggX4_resize_X0_startAnew : GoodIn wsX4_resize wsX0_startAnew := goodIn_r _ [42, 17, 18, 23, 24, 25, 26, 27, 28, 29, 43, 44, 45, 46, 47, 31, 48, 49, 36, 39, 50, 69, 70, 71, 72, 73, 74, 75, 76, 77, 78, 79, 80, 81, 82] (by decide +kernel) (by decide +kernel)
set_option maxRecDepth 20000 in
theorem gX4_resize_X0_startAnew_n43 : GoodIn wsX4_resize (wsX0_startAnew) := ggX4_resize_X0_startAnew
set_option maxRecDepth 20000 in
theorem ggX4_resize_X1_keep : GoodIn wsX4_resize wsX1_keep := goodIn_r _ [53, 11, 54, 55, 56, 57, 66, 67, 68] (by decide +kernel) (by decide +kernel)
set_option maxRecDepth 20000 in
theorem gX4_resize_X1_keep_n47 : GoodIn wsX4_resize (wsX1_keep) := ggX4_resize_X1_keep
theorem dX4_resize_0 : decode cX4_resize 0 = .ok (.aload_n 0, 1) := by decide +kernel
theorem dX4_resize_1 : decode cX4_resize 1 = .ok (.getfield 28, 3) := by decide +kernel
theorem dX4_resize_4 : decode cX4_resize 4 = .ok (.aload_n 0, 1) := by decide +kernel
theorem dX4_resize_5 : decode cX4_resize 5 = .ok (.getfield 10, 3) := by decide +kernel
theorem dX4_resize_8 : decode cX4_resize 8 = .ok (.invokevirtual 39, 3) := by decide +kernel
theorem dX4_resize_11 : decode cX4_resize 11 = .ok (.aload_n 0, 1) := by decide +kernel
theorem dX4_resize_12 : decode cX4_resize 12 = .ok (.getfield 28, 3) := by decide +kernel
theorem dX4_resize_15 : decode cX4_resize 15 = .ok (.aload_n 0, 1) := by decide +kernel
theorem dX4_resize_16 : decode cX4_resize 16 = .ok (.getfield 10, 3) := by decide +kernel
theorem dX4_resize_19 : decode cX4_resize 19 = .ok (.iload_n 1, 1) := by decide +kernel
theorem dX4_resize_20 : decode cX4_resize 20 = .ok (.invokevirtual 43, 3) := by decide +kernel
theorem dX4_resize_23 : decode cX4_resize 23 = .ok (.invokevirtual 47, 3) := by decide +kernel
theorem dX4_resize_26 : decode cX4_resize 26 = .ok (.ireturn, 1) := by decide +kernel
set_option maxRecDepth 20000 in
theorem ggX4_write_X1_prepare : GoodIn wsX4_write wsX1_prepare := goodIn_r _ [6, 7, 8, 9, 4, 10, 11, 12, 13, 14, 15, 16, 17, 18, 19, 20, 21, 22, 23, 24, 25, 26, 27, 28, 29, 30, 31, 32, 33, 34, 35, 36, 37, 38, 39, 72, 73, 74, 75, 76, 77, 78, 79, 80, 81, 82, 83, 84, 85, 86, 87, 88] (by decide +kernel) (by decide +kernel)
set_option maxRecDepth 20000 in
theorem gX4_write_X1_prepare_n39 : GoodIn wsX4_write (wsX1_prepare) := ggX4_write_X1_prepare
set_option maxRecDepth 20000 in
theorem ggX4_write_X0_store : GoodIn wsX4_write wsX0_store := goodIn_r _ [42, 18, 17, 23, 24, 25, 43, 44, 45, 14, 46, 47, 31, 48, 49, 39, 50, 51, 52, 53, 54, 55, 56, 34, 36, 37, 38, 75, 76, 77, 78, 79, 80, 81, 82, 83, 84, 85, 86, 87, 88] (by decide +kernel) (by decide +kernel)
set_option maxRecDepth 20000 in
theorem gX4_write_X0_store_n50 : GoodIn wsX4_write (wsX0_store) := ggX4_write_X0_store
set_option maxRecDepth 20000 in
theorem ggX4_write_X1_keep : GoodIn wsX4_write wsX1_keep := goodIn_r _ [59, 11, 60, 61, 62, 63, 72, 73, 74] (by decide +kernel) (by decide +kernel)
set_option maxRecDepth 20000 in
theorem gX4_write_X1_keep_n47 : GoodIn wsX4_write (wsX1_keep) := ggX4_write_X1_keep
theorem dX4_write_0 : decode cX4_write 0 = .ok (.aload_n 0, 1) := by decide +kernel
theorem dX4_write_1 : decode cX4_write 1 = .ok (.getfield 28, 3) := by decide +kernel
theorem dX4_write_4 : decode cX4_write 4 = .ok (.aload_n 0, 1) := by decide +kernel
theorem dX4_write_5 : decode cX4_write 5 = .ok (.getfield 10, 3) := by decide +kernel
theorem dX4_write_8 : decode cX4_write 8 = .ok (.invokevirtual 39, 3) := by decide +kernel
theorem dX4_write_11 : decode cX4_write 11 = .ok (.aload_n 0, 1) := by decide +kernel
theorem dX4_write_12 : decode cX4_write 12 = .ok (.getfield 28, 3) := by decide +kernel
theorem dX4_write_15 : decode cX4_write 15 = .ok (.aload_n 0, 1) := by decide +kernel
theorem dX4_write_16 : decode cX4_write 16 = .ok (.getfield 10, 3) := by decide +kernel
theorem dX4_write_19 : decode cX4_write 19 = .ok (.iload_n 1, 1) := by decide +kernel
theorem dX4_write_20 : decode cX4_write 20 = .ok (.iload_n 2, 1) := by decide +kernel
theorem dX4_write_21 : decode cX4_write 21 = .ok (.invokevirtual 50, 3) := by decide +kernel
theorem dX4_write_24 : decode cX4_write 24 = .ok (.invokevirtual 47, 3) := by decide +kernel
theorem dX4_write_27 : decode cX4_write 27 = .ok (.ireturn, 1) := by decide +kernel
set_option maxRecDepth 20000 in
theorem ggX4_await_X1_prepare : GoodIn wsX4_await wsX1_prepare := goodIn_r _ [6, 7, 8, 9, 4, 10, 11, 12, 13, 14, 15, 16, 17, 18, 19, 20, 21, 22, 23, 24, 25, 26, 27, 28, 29, 30, 31, 32, 33, 34, 35, 36, 37, 38, 39, 64, 65, 66, 67, 68, 69, 70, 71, 72, 73, 74, 75, 76, 77, 78, 79, 80] (by decide +kernel) (by decide +kernel)
set_option maxRecDepth 20000 in
theorem gX4_await_X1_prepare_n39 : GoodIn wsX4_await (wsX1_prepare) := ggX4_await_X1_prepare
set_option maxRecDepth 20000 in
theorem ggX4_await_X0_expect : GoodIn wsX4_await wsX0_expect := goodIn_r _ [42, 43, 44, 45, 46, 47, 48, 14, 49, 23, 24, 76, 77, 78, 79, 80, 67, 68, 69, 70, 71, 72, 73, 74, 75] (by decide +kernel) (by decide +kernel)
set_option maxRecDepth 20000 in
theorem gX4_await_X0_expect_n54 : GoodIn wsX4_await (wsX0_expect) := ggX4_await_X0_expect
set_option maxRecDepth 20000 in
theorem ggX4_await_X1_keep : GoodIn wsX4_await wsX1_keep := goodIn_r _ [52, 11, 53, 54, 44, 55, 64, 65, 66] (by decide +kernel) (by decide +kernel)
set_option maxRecDepth 20000 in
theorem gX4_await_X1_keep_n47 : GoodIn wsX4_await (wsX1_keep) := ggX4_await_X1_keep
theorem dX4_await_0 : decode cX4_await 0 = .ok (.aload_n 0, 1) := by decide +kernel
theorem dX4_await_1 : decode cX4_await 1 = .ok (.getfield 28, 3) := by decide +kernel
theorem dX4_await_4 : decode cX4_await 4 = .ok (.aload_n 0, 1) := by decide +kernel
theorem dX4_await_5 : decode cX4_await 5 = .ok (.getfield 10, 3) := by decide +kernel
theorem dX4_await_8 : decode cX4_await 8 = .ok (.invokevirtual 39, 3) := by decide +kernel
theorem dX4_await_11 : decode cX4_await 11 = .ok (.aload_n 0, 1) := by decide +kernel
theorem dX4_await_12 : decode cX4_await 12 = .ok (.getfield 28, 3) := by decide +kernel
theorem dX4_await_15 : decode cX4_await 15 = .ok (.aload_n 0, 1) := by decide +kernel
theorem dX4_await_16 : decode cX4_await 16 = .ok (.getfield 10, 3) := by decide +kernel
theorem dX4_await_19 : decode cX4_await 19 = .ok (.iload_n 1, 1) := by decide +kernel
theorem dX4_await_20 : decode cX4_await 20 = .ok (.iload_n 2, 1) := by decide +kernel
theorem dX4_await_21 : decode cX4_await 21 = .ok (.invokevirtual 54, 3) := by decide +kernel
theorem dX4_await_24 : decode cX4_await 24 = .ok (.invokevirtual 47, 3) := by decide +kernel
theorem dX4_await_27 : decode cX4_await 27 = .ok (.ireturn, 1) := by decide +kernel
set_option maxRecDepth 20000 in
theorem ggX4_wipeOut_X1_prepare : GoodIn wsX4_wipeOut wsX1_prepare := goodIn_r _ [6, 7, 8, 9, 4, 10, 11, 12, 13, 14, 15, 16, 17, 18, 19, 20, 21, 22, 23, 24, 25, 26, 27, 28, 29, 30, 31, 32, 33, 34, 35, 36, 37, 38, 39, 75, 76, 77, 78, 79, 80, 81, 82, 83, 84, 85, 86, 87, 88, 89, 90, 91] (by decide +kernel) (by decide +kernel)
set_option maxRecDepth 20000 in
theorem gX4_wipeOut_X1_prepare_n39 : GoodIn wsX4_wipeOut (wsX1_prepare) := ggX4_wipeOut_X1_prepare
set_option maxRecDepth 20000 in
theorem ggX4_wipeOut_X0_empty : GoodIn wsX4_wipeOut wsX0_empty := goodIn_r _ [42, 43, 44, 45, 46, 47, 48, 14, 49, 17, 50, 51, 52, 53, 23, 24, 54, 31, 55, 56, 36, 57, 58, 59, 60, 78, 79, 80, 81, 82, 83, 84, 85, 86, 87, 88, 89, 90, 91] (by decide +kernel) (by decide +kernel)
set_option maxRecDepth 20000 in
theorem gX4_wipeOut_X0_empty_n57 : GoodIn wsX4_wipeOut (wsX0_empty) := ggX4_wipeOut_X0_empty
set_option maxRecDepth 20000 in
theorem ggX4_wipeOut_X1_keep : GoodIn wsX4_wipeOut wsX1_keep := goodIn_r _ [63, 11, 64, 65, 44, 66, 75, 76, 77] (by decide +kernel) (by decide +kernel)
set_option maxRecDepth 20000 in
theorem gX4_wipeOut_X1_keep_n47 : GoodIn wsX4_wipeOut (wsX1_keep) := ggX4_wipeOut_X1_keep
theorem dX4_wipeOut_0 : decode cX4_wipeOut 0 = .ok (.aload_n 0, 1) := by decide +kernel
theorem dX4_wipeOut_1 : decode cX4_wipeOut 1 = .ok (.getfield 28, 3) := by decide +kernel
theorem dX4_wipeOut_4 : decode cX4_wipeOut 4 = .ok (.aload_n 0, 1) := by decide +kernel
theorem dX4_wipeOut_5 : decode cX4_wipeOut 5 = .ok (.getfield 10, 3) := by decide +kernel
theorem dX4_wipeOut_8 : decode cX4_wipeOut 8 = .ok (.invokevirtual 39, 3) := by decide +kernel
theorem dX4_wipeOut_11 : decode cX4_wipeOut 11 = .ok (.aload_n 0, 1) := by decide +kernel
theorem dX4_wipeOut_12 : decode cX4_wipeOut 12 = .ok (.getfield 28, 3) := by decide +kernel
theorem dX4_wipeOut_15 : decode cX4_wipeOut 15 = .ok (.aload_n 0, 1) := by decide +kernel
theorem dX4_wipeOut_16 : decode cX4_wipeOut 16 = .ok (.getfield 10, 3) := by decide +kernel
theorem dX4_wipeOut_19 : decode cX4_wipeOut 19 = .ok (.iload_n 1, 1) := by decide +kernel
theorem dX4_wipeOut_20 : decode cX4_wipeOut 20 = .ok (.iload_n 2, 1) := by decide +kernel
theorem dX4_wipeOut_21 : decode cX4_wipeOut 21 = .ok (.invokevirtual 57, 3) := by decide +kernel
theorem dX4_wipeOut_24 : decode cX4_wipeOut 24 = .ok (.invokevirtual 47, 3) := by decide +kernel
theorem dX4_wipeOut_27 : decode cX4_wipeOut 27 = .ok (.ireturn, 1) := by decide +kernel
set_option maxRecDepth 20000 in
theorem ggX4_read_X1_prepare : GoodIn wsX4_read wsX1_prepare := goodIn_r _ [6, 7, 8, 9, 4, 10, 11, 12, 13, 14, 15, 16, 17, 18, 19, 20, 21, 22, 23, 24, 25, 26, 27, 28, 29, 30, 31, 32, 33, 34, 35, 36, 37, 38, 39, 87, 88, 89, 90, 91, 92, 93, 94, 95, 96, 97, 98, 99, 100, 101, 102, 103] (by decide +kernel) (by decide +kernel)
set_option maxRecDepth 20000 in
theorem gX4_read_X1_prepare_n39 : GoodIn wsX4_read (wsX1_prepare) := ggX4_read_X1_prepare
set_option maxRecDepth 20000 in
theorem ggX4_read_X0_fetch : GoodIn wsX4_read wsX0_fetch := goodIn_r _ [42, 26, 23, 27, 24, 28, 43, 44, 45, 14, 46, 17, 47, 48, 49, 50, 51, 52, 53, 54, 18, 55, 56, 57, 58, 59, 31, 60, 61, 38, 34, 36, 37, 62, 63, 64, 65, 66, 67, 68, 69, 70, 71, 90, 91, 92, 93, 94, 95, 96, 97, 98, 99, 100, 101, 102, 103] (by decide +kernel) (by decide +kernel)
set_option maxRecDepth 20000 in
theorem gX4_read_X0_fetch_n60 : GoodIn wsX4_read (wsX0_fetch) := ggX4_read_X0_fetch
set_option maxRecDepth 20000 in
theorem ggX4_read_X1_keep : GoodIn wsX4_read wsX1_keep := goodIn_r _ [74, 11, 75, 76, 77, 78, 87, 88, 89] (by decide +kernel) (by decide +kernel)
set_option maxRecDepth 20000 in
theorem gX4_read_X1_keep_n47 : GoodIn wsX4_read (wsX1_keep) := ggX4_read_X1_keep
theorem dX4_read_0 : decode cX4_read 0 = .ok (.aload_n 0, 1) := by decide +kernel
theorem dX4_read_1 : decode cX4_read 1 = .ok (.getfield 28, 3) := by decide +kernel
theorem dX4_read_4 : decode cX4_read 4 = .ok (.aload_n 0, 1) := by decide +kernel
theorem dX4_read_5 : decode cX4_read 5 = .ok (.getfield 10, 3) := by decide +kernel
theorem dX4_read_8 : decode cX4_read 8 = .ok (.invokevirtual 39, 3) := by decide +kernel
theorem dX4_read_11 : decode cX4_read 11 = .ok (.aload_n 0, 1) := by decide +kernel
theorem dX4_read_12 : decode cX4_read 12 = .ok (.getfield 28, 3) := by decide +kernel
theorem dX4_read_15 : decode cX4_read 15 = .ok (.aload_n 0, 1) := by decide +kernel
theorem dX4_read_16 : decode cX4_read 16 = .ok (.getfield 10, 3) := by decide +kernel
theorem dX4_read_19 : decode cX4_read 19 = .ok (.iload_n 1, 1) := by decide +kernel
theorem dX4_read_20 : decode cX4_read 20 = .ok (.invokevirtual 60, 3) := by decide +kernel
theorem dX4_read_23 : decode cX4_read 23 = .ok (.invokevirtual 47, 3) := by decide +kernel
theorem dX4_read_26 : decode cX4_read 26 = .ok (.ireturn, 1) := by decide +kernel
set_option maxRecDepth 20000 in
theorem ggX4_mend_X1_prepare : GoodIn wsX4_mend wsX1_prepare := goodIn_r _ [6, 7, 8, 9, 4, 10, 11, 12, 13, 14, 15, 16, 17, 18, 19, 20, 21, 22, 23, 24, 25, 26, 27, 28, 29, 30, 31, 32, 33, 34, 35, 36, 37, 38, 39, 87, 88, 89, 90, 91, 92, 93, 94, 95, 96, 97, 98, 99, 100, 101, 102, 103] (by decide +kernel) (by decide +kernel)
set_option maxRecDepth 20000 in
theorem gX4_mend_X1_prepare_n39 : GoodIn wsX4_mend (wsX1_prepare) := ggX4_mend_X1_prepare
set_option maxRecDepth 20000 in
theorem ggX4_mend_X0_repair : GoodIn wsX4_mend wsX0_repair := goodIn_r _ [42, 23, 24, 29, 43, 44, 45, 14, 46, 17, 47, 48, 49, 50, 51, 52, 53, 54, 18, 55, 31, 56, 57, 38, 34, 36, 37, 58, 59, 60, 61, 62, 63, 64, 65, 66, 67, 68, 69, 70, 71, 90, 91, 92, 93, 94, 95, 96, 97, 98, 99, 100, 101, 102, 103] (by decide +kernel) (by decide +kernel)
set_option maxRecDepth 20000 in
theorem gX4_mend_X0_repair_n63 : GoodIn wsX4_mend (wsX0_repair) := ggX4_mend_X0_repair
set_option maxRecDepth 20000 in
theorem ggX4_mend_X1_keep : GoodIn wsX4_mend wsX1_keep := goodIn_r _ [74, 11, 75, 76, 77, 78, 87, 88, 89] (by decide +kernel) (by decide +kernel)
set_option maxRecDepth 20000 in
theorem gX4_mend_X1_keep_n47 : GoodIn wsX4_mend (wsX1_keep) := ggX4_mend_X1_keep
theorem dX4_mend_0 : decode cX4_mend 0 = .ok (.aload_n 0, 1) := by decide +kernel
theorem dX4_mend_1 : decode cX4_mend 1 = .ok (.getfield 28, 3) := by decide +kernel
theorem dX4_mend_4 : decode cX4_mend 4 = .ok (.aload_n 0, 1) := by decide +kernel
theorem dX4_mend_5 : decode cX4_mend 5 = .ok (.getfield 10, 3) := by decide +kernel
theorem dX4_mend_8 : decode cX4_mend 8 = .ok (.invokevirtual 39, 3) := by decide +kernel
theorem dX4_mend_11 : decode cX4_mend 11 = .ok (.aload_n 0, 1) := by decide +kernel
theorem dX4_mend_12 : decode cX4_mend 12 = .ok (.getfield 28, 3) := by decide +kernel
theorem dX4_mend_15 : decode cX4_mend 15 = .ok (.aload_n 0, 1) := by decide +kernel
theorem dX4_mend_16 : decode cX4_mend 16 = .ok (.getfield 10, 3) := by decide +kernel
theorem dX4_mend_19 : decode cX4_mend 19 = .ok (.iload_n 1, 1) := by decide +kernel
theorem dX4_mend_20 : decode cX4_mend 20 = .ok (.invokevirtual 63, 3) := by decide +kernel
theorem dX4_mend_23 : decode cX4_mend 23 = .ok (.invokevirtual 47, 3) := by decide +kernel
theorem dX4_mend_26 : decode cX4_mend 26 = .ok (.ireturn, 1) := by decide +kernel
set_option maxRecDepth 20000 in
theorem ggX4_scrub_X1_prepare : GoodIn wsX4_scrub wsX1_prepare := goodIn_r _ [6, 7, 8, 9, 4, 10, 11, 12, 13, 14, 15, 16, 17, 18, 19, 20, 21, 22, 23, 24, 25, 26, 27, 28, 29, 30, 31, 32, 33, 34, 35, 36, 37, 38, 39, 91, 92, 93, 94, 95, 96, 97, 98, 99, 100, 101, 102, 103, 104, 105, 106, 107] (by decide +kernel) (by decide +kernel)
set_option maxRecDepth 20000 in
theorem gX4_scrub_X1_prepare_n39 : GoodIn wsX4_scrub (wsX1_prepare) := ggX4_scrub_X1_prepare
set_option maxRecDepth 20000 in
theorem ggX4_scrub_X0_repairAll : GoodIn wsX4_scrub wsX0_repairAll := goodIn_r _ [42, 29, 17, 43, 44, 45, 14, 46, 23, 24, 47, 48, 49, 50, 51, 52, 53, 54, 55, 56, 57, 58, 18, 59, 31, 60, 61, 38, 34, 36, 37, 62, 63, 64, 65, 66, 67, 68, 69, 70, 71, 72, 73, 74, 75, 94, 95, 96, 97, 98, 99, 100, 101, 102, 103, 104, 105, 106, 107] (by decide +kernel) (by decide +kernel)
set_option maxRecDepth 20000 in
theorem gX4_scrub_X0_repairAll_n66 : GoodIn wsX4_scrub (wsX0_repairAll) := ggX4_scrub_X0_repairAll
set_option maxRecDepth 20000 in
theorem ggX4_scrub_X1_keep : GoodIn wsX4_scrub wsX1_keep := goodIn_r _ [78, 11, 79, 80, 81, 82, 91, 92, 93] (by decide +kernel) (by decide +kernel)
set_option maxRecDepth 20000 in
theorem gX4_scrub_X1_keep_n47 : GoodIn wsX4_scrub (wsX1_keep) := ggX4_scrub_X1_keep
theorem dX4_scrub_0 : decode cX4_scrub 0 = .ok (.aload_n 0, 1) := by decide +kernel
theorem dX4_scrub_1 : decode cX4_scrub 1 = .ok (.getfield 28, 3) := by decide +kernel
theorem dX4_scrub_4 : decode cX4_scrub 4 = .ok (.aload_n 0, 1) := by decide +kernel
theorem dX4_scrub_5 : decode cX4_scrub 5 = .ok (.getfield 10, 3) := by decide +kernel
theorem dX4_scrub_8 : decode cX4_scrub 8 = .ok (.invokevirtual 39, 3) := by decide +kernel
theorem dX4_scrub_11 : decode cX4_scrub 11 = .ok (.aload_n 0, 1) := by decide +kernel
theorem dX4_scrub_12 : decode cX4_scrub 12 = .ok (.getfield 28, 3) := by decide +kernel
theorem dX4_scrub_15 : decode cX4_scrub 15 = .ok (.aload_n 0, 1) := by decide +kernel
theorem dX4_scrub_16 : decode cX4_scrub 16 = .ok (.getfield 10, 3) := by decide +kernel
theorem dX4_scrub_19 : decode cX4_scrub 19 = .ok (.invokevirtual 66, 3) := by decide +kernel
theorem dX4_scrub_22 : decode cX4_scrub 22 = .ok (.invokevirtual 47, 3) := by decide +kernel
theorem dX4_scrub_25 : decode cX4_scrub 25 = .ok (.ireturn, 1) := by decide +kernel
set_option maxRecDepth 20000 in
theorem ggX4_block_X4_isSide : GoodIn wsX4_block wsX4_isSide := goodIn_r _ [5] (by decide +kernel) (by decide +kernel)
set_option maxRecDepth 20000 in
theorem gX4_block_X4_isSide : GoodIn wsX4_block (va_wsS RX4 70 yX4_isSide wsX4_isSide) := goodIn_app (goodIn_of _ (by decide +kernel)) ggX4_block_X4_isSide
set_option maxRecDepth 20000 in
theorem ggX4_block_X0_hasPlace : GoodIn wsX4_block wsX0_hasPlace := goodIn_r _ [9, 10, 55, 56, 57, 58, 59, 60, 61, 62, 63] (by decide +kernel) (by decide +kernel)
set_option maxRecDepth 20000 in
theorem gX4_block_X0_hasPlace_n74 : GoodIn wsX4_block (wsX0_hasPlace) := ggX4_block_X0_hasPlace
set_option maxRecDepth 20000 in
theorem ggX4_block_X0_sideOf : GoodIn wsX4_block wsX0_sideOf := goodIn_r _ [13, 14, 15, 55, 56, 57, 58, 59, 60, 61, 62, 63] (by decide +kernel) (by decide +kernel)
set_option maxRecDepth 20000 in
theorem gX4_block_X0_sideOf_n77 : GoodIn wsX4_block (wsX0_sideOf) := ggX4_block_X0_sideOf
set_option maxRecDepth 20000 in
theorem ggX4_block_X0_isWritten : GoodIn wsX4_block wsX0_isWritten := goodIn_r _ [18, 19, 20, 21, 7, 22, 23, 24, 6, 8, 9, 10, 55, 56, 57, 58, 59, 60, 61, 62, 63] (by decide +kernel) (by decide +kernel)
set_option maxRecDepth 20000 in
theorem gX4_block_X0_isWritten_n81 : GoodIn wsX4_block (wsX0_isWritten) := ggX4_block_X0_isWritten
set_option maxRecDepth 20000 in
theorem ggX4_block_X0_roundOf : GoodIn wsX4_block wsX0_roundOf := goodIn_r _ [22, 23, 24, 6, 8, 7, 9, 10, 55, 56, 57, 58, 59, 60, 61, 62, 63] (by decide +kernel) (by decide +kernel)
set_option maxRecDepth 20000 in
theorem gX4_block_X0_roundOf_n84 : GoodIn wsX4_block (wsX0_roundOf) := ggX4_block_X0_roundOf
set_option maxRecDepth 20000 in
theorem ggX4_block_X3_reasonAgainst : GoodIn wsX4_block wsX3_reasonAgainst := goodIn_r _ [28, 29, 30, 31, 32, 33, 34, 35, 26, 36, 37, 38, 39, 64, 65, 66, 67, 68] (by decide +kernel) (by decide +kernel)
set_option maxRecDepth 20000 in
theorem gX4_block_X3_reasonAgainst_n87 : GoodIn wsX4_block (wsX3_reasonAgainst) := ggX4_block_X3_reasonAgainst
set_option maxRecDepth 20000 in
theorem ggX4_block_X3_part : GoodIn wsX4_block wsX3_part := goodIn_r _ [42, 30, 31, 32, 29, 43, 44, 45, 26, 46, 33, 34, 35, 36, 37, 38, 39, 64, 65, 66, 67, 68] (by decide +kernel) (by decide +kernel)
set_option maxRecDepth 20000 in
theorem gX4_block_X3_part_n92 : GoodIn wsX4_block (wsX3_part) := ggX4_block_X3_part
theorem dX4_block_0 : decode cX4_block 0 = .ok (.iload_n 1, 1) := by decide +kernel
theorem dX4_block_1 : decode cX4_block 1 = .ok (.invokestatic 70, 3) := by decide +kernel
theorem dX4_block_4 : decode cX4_block 4 = .ok (.ifCond .eq 14, 3) := by decide +kernel
theorem dX4_block_7 : decode cX4_block 7 = .ok (.aload_n 0, 1) := by decide +kernel
theorem dX4_block_8 : decode cX4_block 8 = .ok (.getfield 10, 3) := by decide +kernel
theorem dX4_block_11 : decode cX4_block 11 = .ok (.iload_n 2, 1) := by decide +kernel
theorem dX4_block_12 : decode cX4_block 12 = .ok (.invokevirtual 74, 3) := by decide +kernel
theorem dX4_block_15 : decode cX4_block 15 = .ok (.ifCond .ne 5, 3) := by decide +kernel
theorem dX4_block_18 : decode cX4_block 18 = .ok (.iconst (-1), 1) := by decide +kernel
theorem dX4_block_19 : decode cX4_block 19 = .ok (.ireturn, 1) := by decide +kernel
theorem dX4_block_20 : decode cX4_block 20 = .ok (.iload_n 3, 1) := by decide +kernel
theorem dX4_block_21 : decode cX4_block 21 = .ok (.ifCond .lt 8, 3) := by decide +kernel
theorem dX4_block_24 : decode cX4_block 24 = .ok (.iload_n 3, 1) := by decide +kernel
theorem dX4_block_25 : decode cX4_block 25 = .ok (.iconst 5, 1) := by decide +kernel
theorem dX4_block_26 : decode cX4_block 26 = .ok (.if_icmp .le 6, 3) := by decide +kernel
theorem dX4_block_29 : decode cX4_block 29 = .ok (.bipush (-2), 2) := by decide +kernel
theorem dX4_block_31 : decode cX4_block 31 = .ok (.ireturn, 1) := by decide +kernel
theorem dX4_block_32 : decode cX4_block 32 = .ok (.aload_n 0, 1) := by decide +kernel
theorem dX4_block_33 : decode cX4_block 33 = .ok (.getfield 10, 3) := by decide +kernel
theorem dX4_block_36 : decode cX4_block 36 = .ok (.iload_n 1, 1) := by decide +kernel
theorem dX4_block_37 : decode cX4_block 37 = .ok (.invokevirtual 77, 3) := by decide +kernel
theorem dX4_block_40 : decode cX4_block 40 = .ok (.astore 4, 2) := by decide +kernel
theorem dX4_block_42 : decode cX4_block 42 = .ok (.iload_n 3, 1) := by decide +kernel
theorem dX4_block_43 : decode cX4_block 43 = .ok (.iconst 5, 1) := by decide +kernel
theorem dX4_block_44 : decode cX4_block 44 = .ok (.if_icmp .ne 34, 3) := by decide +kernel
theorem dX4_block_47 : decode cX4_block 47 = .ok (.aload_n 0, 1) := by decide +kernel
theorem dX4_block_48 : decode cX4_block 48 = .ok (.getfield 10, 3) := by decide +kernel
theorem dX4_block_51 : decode cX4_block 51 = .ok (.iload_n 2, 1) := by decide +kernel
theorem dX4_block_52 : decode cX4_block 52 = .ok (.invokevirtual 81, 3) := by decide +kernel
theorem dX4_block_55 : decode cX4_block 55 = .ok (.ifCond .eq 20, 3) := by decide +kernel
theorem dX4_block_58 : decode cX4_block 58 = .ok (.aload 4, 2) := by decide +kernel
theorem dX4_block_60 : decode cX4_block 60 = .ok (.iload_n 2, 1) := by decide +kernel
theorem dX4_block_61 : decode cX4_block 61 = .ok (.aload_n 0, 1) := by decide +kernel
theorem dX4_block_62 : decode cX4_block 62 = .ok (.getfield 10, 3) := by decide +kernel
theorem dX4_block_65 : decode cX4_block 65 = .ok (.iload_n 2, 1) := by decide +kernel
theorem dX4_block_66 : decode cX4_block 66 = .ok (.invokevirtual 84, 3) := by decide +kernel
theorem dX4_block_69 : decode cX4_block 69 = .ok (.invokevirtual 87, 3) := by decide +kernel
theorem dX4_block_72 : decode cX4_block 72 = .ok (.goto 5, 3) := by decide +kernel
theorem dX4_block_75 : decode cX4_block 75 = .ok (.bipush (-6), 2) := by decide +kernel
theorem dX4_block_77 : decode cX4_block 77 = .ok (.ireturn, 1) := by decide +kernel
theorem dX4_block_78 : decode cX4_block 78 = .ok (.aload 4, 2) := by decide +kernel
theorem dX4_block_80 : decode cX4_block 80 = .ok (.iload_n 2, 1) := by decide +kernel
theorem dX4_block_81 : decode cX4_block 81 = .ok (.iload_n 3, 1) := by decide +kernel
theorem dX4_block_82 : decode cX4_block 82 = .ok (.invokevirtual 92, 3) := by decide +kernel
theorem dX4_block_85 : decode cX4_block 85 = .ok (.ireturn, 1) := by decide +kernel
set_option maxRecDepth 20000 in
theorem ggX4_round_X0_hasPlace : GoodIn wsX4_round wsX0_hasPlace := goodIn_r _ [5, 6, 20, 21, 22, 23, 24, 25, 26, 27, 28] (by decide +kernel) (by decide +kernel)
set_option maxRecDepth 20000 in
theorem gX4_round_X0_hasPlace_n74 : GoodIn wsX4_round (wsX0_hasPlace) := ggX4_round_X0_hasPlace
set_option maxRecDepth 20000 in
theorem ggX4_round_X0_roundOf : GoodIn wsX4_round wsX0_roundOf := goodIn_r _ [9, 10, 11, 2, 4, 3, 5, 6, 20, 21, 22, 23, 24, 25, 26, 27, 28] (by decide +kernel) (by decide +kernel)
set_option maxRecDepth 20000 in
theorem gX4_round_X0_roundOf_n84 : GoodIn wsX4_round (wsX0_roundOf) := ggX4_round_X0_roundOf
theorem dX4_round_0 : decode cX4_round 0 = .ok (.aload_n 0, 1) := by decide +kernel
theorem dX4_round_1 : decode cX4_round 1 = .ok (.getfield 10, 3) := by decide +kernel
theorem dX4_round_4 : decode cX4_round 4 = .ok (.iload_n 1, 1) := by decide +kernel
theorem dX4_round_5 : decode cX4_round 5 = .ok (.invokevirtual 74, 3) := by decide +kernel
theorem dX4_round_8 : decode cX4_round 8 = .ok (.ifCond .eq 14, 3) := by decide +kernel
theorem dX4_round_11 : decode cX4_round 11 = .ok (.aload_n 0, 1) := by decide +kernel
theorem dX4_round_12 : decode cX4_round 12 = .ok (.getfield 10, 3) := by decide +kernel
theorem dX4_round_15 : decode cX4_round 15 = .ok (.iload_n 1, 1) := by decide +kernel
theorem dX4_round_16 : decode cX4_round 16 = .ok (.invokevirtual 84, 3) := by decide +kernel
theorem dX4_round_19 : decode cX4_round 19 = .ok (.goto 4, 3) := by decide +kernel
theorem dX4_round_22 : decode cX4_round 22 = .ok (.iconst (-1), 1) := by decide +kernel
theorem dX4_round_23 : decode cX4_round 23 = .ok (.ireturn, 1) := by decide +kernel
set_option maxRecDepth 20000 in
theorem ggX4_places_X0_setOf : GoodIn wsX4_places wsX0_setOf := goodIn_r _ [6, 7, 8, 9, 10, 4, 11, 12, 13, 14, 15, 16, 17, 18, 19, 20, 21, 22, 23, 24, 25, 26, 27, 28, 29, 30, 31, 32, 33, 34, 35, 36, 37, 38, 39, 40, 41, 42, 43, 44, 45, 46, 47, 48, 57, 58, 59, 60, 61, 62, 63, 64, 65, 66, 67, 68, 69, 70] (by decide +kernel) (by decide +kernel)
set_option maxRecDepth 20000 in
theorem gX4_places_X0_setOf_n97 : GoodIn wsX4_places (wsX0_setOf) := ggX4_places_X0_setOf
theorem dX4_places_0 : decode cX4_places 0 = .ok (.iload_n 1, 1) := by decide +kernel
theorem dX4_places_1 : decode cX4_places 1 = .ok (.ifCond .lt 8, 3) := by decide +kernel
theorem dX4_places_4 : decode cX4_places 4 = .ok (.iload_n 1, 1) := by decide +kernel
theorem dX4_places_5 : decode cX4_places 5 = .ok (.iconst 5, 1) := by decide +kernel
theorem dX4_places_6 : decode cX4_places 6 = .ok (.if_icmp .le 9, 3) := by decide +kernel
theorem dX4_places_9 : decode cX4_places 9 = .ok (.ldc2_w 95, 3) := by decide +kernel
theorem dX4_places_12 : decode cX4_places 12 = .ok (.goto 11, 3) := by decide +kernel
theorem dX4_places_15 : decode cX4_places 15 = .ok (.aload_n 0, 1) := by decide +kernel
theorem dX4_places_16 : decode cX4_places 16 = .ok (.getfield 10, 3) := by decide +kernel
theorem dX4_places_19 : decode cX4_places 19 = .ok (.iload_n 1, 1) := by decide +kernel
theorem dX4_places_20 : decode cX4_places 20 = .ok (.invokevirtual 97, 3) := by decide +kernel
theorem dX4_places_23 : decode cX4_places 23 = .ok (.lreturn, 1) := by decide +kernel
theorem dX4_count_0 : decode cX4_count 0 = .ok (.iload_n 1, 1) := by decide +kernel
theorem dX4_count_1 : decode cX4_count 1 = .ok (.tableswitch 141 0 9 #[55, 63, 74, 85, 93, 101, 109, 117, 125, 133], 55) := by decide +kernel
theorem dX4_count_56 : decode cX4_count 56 = .ok (.aload_n 0, 1) := by decide +kernel
theorem dX4_count_57 : decode cX4_count 57 = .ok (.getfield 10, 3) := by decide +kernel
theorem dX4_count_60 : decode cX4_count 60 = .ok (.getfield 101, 3) := by decide +kernel
theorem dX4_count_63 : decode cX4_count 63 = .ok (.ireturn, 1) := by decide +kernel
theorem dX4_count_64 : decode cX4_count 64 = .ok (.aload_n 0, 1) := by decide +kernel
theorem dX4_count_65 : decode cX4_count 65 = .ok (.getfield 10, 3) := by decide +kernel
theorem dX4_count_68 : decode cX4_count 68 = .ok (.getfield 105, 3) := by decide +kernel
theorem dX4_count_71 : decode cX4_count 71 = .ok (.getfield 109, 3) := by decide +kernel
theorem dX4_count_74 : decode cX4_count 74 = .ok (.ireturn, 1) := by decide +kernel
theorem dX4_count_75 : decode cX4_count 75 = .ok (.aload_n 0, 1) := by decide +kernel
theorem dX4_count_76 : decode cX4_count 76 = .ok (.getfield 10, 3) := by decide +kernel
theorem dX4_count_79 : decode cX4_count 79 = .ok (.getfield 112, 3) := by decide +kernel
theorem dX4_count_82 : decode cX4_count 82 = .ok (.getfield 109, 3) := by decide +kernel
theorem dX4_count_85 : decode cX4_count 85 = .ok (.ireturn, 1) := by decide +kernel
theorem dX4_count_86 : decode cX4_count 86 = .ok (.aload_n 0, 1) := by decide +kernel
theorem dX4_count_87 : decode cX4_count 87 = .ok (.getfield 10, 3) := by decide +kernel
theorem dX4_count_90 : decode cX4_count 90 = .ok (.getfield 115, 3) := by decide +kernel
theorem dX4_count_93 : decode cX4_count 93 = .ok (.ireturn, 1) := by decide +kernel
theorem dX4_count_94 : decode cX4_count 94 = .ok (.aload_n 0, 1) := by decide +kernel
theorem dX4_count_95 : decode cX4_count 95 = .ok (.getfield 10, 3) := by decide +kernel
theorem dX4_count_98 : decode cX4_count 98 = .ok (.getfield 118, 3) := by decide +kernel
theorem dX4_count_101 : decode cX4_count 101 = .ok (.ireturn, 1) := by decide +kernel
theorem dX4_count_102 : decode cX4_count 102 = .ok (.aload_n 0, 1) := by decide +kernel
theorem dX4_count_103 : decode cX4_count 103 = .ok (.getfield 10, 3) := by decide +kernel
theorem dX4_count_106 : decode cX4_count 106 = .ok (.getfield 121, 3) := by decide +kernel
theorem dX4_count_109 : decode cX4_count 109 = .ok (.ireturn, 1) := by decide +kernel
theorem dX4_count_110 : decode cX4_count 110 = .ok (.aload_n 0, 1) := by decide +kernel
theorem dX4_count_111 : decode cX4_count 111 = .ok (.getfield 10, 3) := by decide +kernel
theorem dX4_count_114 : decode cX4_count 114 = .ok (.getfield 124, 3) := by decide +kernel
theorem dX4_count_117 : decode cX4_count 117 = .ok (.ireturn, 1) := by decide +kernel
theorem dX4_count_118 : decode cX4_count 118 = .ok (.aload_n 0, 1) := by decide +kernel
theorem dX4_count_119 : decode cX4_count 119 = .ok (.getfield 10, 3) := by decide +kernel
theorem dX4_count_122 : decode cX4_count 122 = .ok (.getfield 127, 3) := by decide +kernel
theorem dX4_count_125 : decode cX4_count 125 = .ok (.ireturn, 1) := by decide +kernel
theorem dX4_count_126 : decode cX4_count 126 = .ok (.aload_n 0, 1) := by decide +kernel
theorem dX4_count_127 : decode cX4_count 127 = .ok (.getfield 35, 3) := by decide +kernel
