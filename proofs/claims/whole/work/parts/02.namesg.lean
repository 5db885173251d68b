set_option maxRecDepth 20000 in
theorem gX5_resize_X5_in : GoodIn wsX5_resize (va_wsS RX5 29 yX5_in wsX5_in) := goodIn_app (goodIn_of _ (by decide +kernel)) ggX5_resize_X5_in
set_option maxRecDepth 20000 in
theorem ggX5_resize_X5_know : GoodIn wsX5_resize wsX5_know := goodIn_r _ [9, 10, 11, 1, 12, 13, 14, 15, 16, 17, 18, 19, 20, 21, 22, 23, 24] (by decide +kernel) (by decide +kernel)
set_option maxRecDepth 20000 in
theorem gX5_resize_X5_know : GoodIn wsX5_resize (wsV RX5 76 RX5 yX5_know wsX5_know) := goodIn_app (goodIn_of _ (by decide +kernel)) ggX5_resize_X5_know
theorem dX5_resize_0 : decode cX5_resize 0 = .ok (.iload_n 1, 1) := by decide +kernel
theorem dX5_resize_1 : decode cX5_resize 1 = .ok (.iconst 1, 1) := by decide +kernel
theorem dX5_resize_2 : decode cX5_resize 2 = .ok (.bipush 32, 2) := by decide +kernel
theorem dX5_resize_4 : decode cX5_resize 4 = .ok (.invokestatic 29, 3) := by decide +kernel
theorem dX5_resize_7 : decode cX5_resize 7 = .ok (.ifCond .ne 6, 3) := by decide +kernel
theorem dX5_resize_10 : decode cX5_resize 10 = .ok (.bipush (-2), 2) := by decide +kernel
theorem dX5_resize_12 : decode cX5_resize 12 = .ok (.ireturn, 1) := by decide +kernel
theorem dX5_resize_13 : decode cX5_resize 13 = .ok (.aload_n 0, 1) := by decide +kernel
theorem dX5_resize_14 : decode cX5_resize 14 = .ok (.invokevirtual 76, 3) := by decide +kernel
theorem dX5_resize_17 : decode cX5_resize 17 = .ok (.aload_n 0, 1) := by decide +kernel
theorem dX5_resize_18 : decode cX5_resize 18 = .ok (.getfield 7, 3) := by decide +kernel
theorem dX5_resize_21 : decode cX5_resize 21 = .ok (.iconst 0, 1) := by decide +kernel
theorem dX5_resize_22 : decode cX5_resize 22 = .ok (.iaload, 1) := by decide +kernel
theorem dX5_resize_23 : decode cX5_resize 23 = .ok (.istore_n 2, 1) := by decide +kernel
theorem dX5_resize_24 : decode cX5_resize 24 = .ok (.iconst 0, 1) := by decide +kernel
theorem dX5_resize_25 : decode cX5_resize 25 = .ok (.istore_n 3, 1) := by decide +kernel
theorem dX5_resize_26 : decode cX5_resize 26 = .ok (.iload_n 3, 1) := by decide +kernel
theorem dX5_resize_27 : decode cX5_resize 27 = .ok (.sipush 360, 3) := by decide +kernel
theorem dX5_resize_30 : decode cX5_resize 30 = .ok (.if_icmp .ge 16, 3) := by decide +kernel
theorem dX5_resize_33 : decode cX5_resize 33 = .ok (.aload_n 0, 1) := by decide +kernel
theorem dX5_resize_34 : decode cX5_resize 34 = .ok (.getfield 7, 3) := by decide +kernel
theorem dX5_resize_37 : decode cX5_resize 37 = .ok (.iload_n 3, 1) := by decide +kernel
theorem dX5_resize_38 : decode cX5_resize 38 = .ok (.iconst 0, 1) := by decide +kernel
theorem dX5_resize_39 : decode cX5_resize 39 = .ok (.iastore, 1) := by decide +kernel
theorem dX5_resize_40 : decode cX5_resize 40 = .ok (.iinc 3 1, 3) := by decide +kernel
theorem dX5_resize_43 : decode cX5_resize 43 = .ok (.goto (-17), 3) := by decide +kernel
theorem dX5_resize_46 : decode cX5_resize 46 = .ok (.aload_n 0, 1) := by decide +kernel
theorem dX5_resize_47 : decode cX5_resize 47 = .ok (.getfield 7, 3) := by decide +kernel
theorem dX5_resize_50 : decode cX5_resize 50 = .ok (.iconst 0, 1) := by decide +kernel
theorem dX5_resize_51 : decode cX5_resize 51 = .ok (.iload_n 1, 1) := by decide +kernel
theorem dX5_resize_52 : decode cX5_resize 52 = .ok (.iastore, 1) := by decide +kernel
theorem dX5_resize_53 : decode cX5_resize 53 = .ok (.iload_n 2, 1) := by decide +kernel
theorem dX5_resize_54 : decode cX5_resize 54 = .ok (.ireturn, 1) := by decide +kernel
set_option maxRecDepth 20000 in
theorem ggX5_write_X5_writeFault : GoodIn wsX5_write wsX5_writeFault := goodIn_r _ [5, 6, 7, 8, 9, 4, 10, 11, 12, 13, 34, 35, 36, 37, 38, 39, 40, 41, 42, 43, 44, 45, 46] (by decide +kernel) (by decide +kernel)
set_option maxRecDepth 20000 in
theorem gX5_write_X5_writeFault : GoodIn wsX5_write (wsV RX5 79 RX5 yX5_writeFault wsX5_writeFault) := goodIn_app (goodIn_of _ (by decide +kernel)) ggX5_write_X5_writeFault
set_option maxRecDepth 20000 in
theorem ggX5_write_X5_know : GoodIn wsX5_write wsX5_know := goodIn_r _ [17, 18, 19, 6, 34, 35, 36, 37, 38, 39, 40, 41, 42, 43, 44, 45, 46] (by decide +kernel) (by decide +kernel)
set_option maxRecDepth 20000 in
theorem gX5_write_X5_know : GoodIn wsX5_write (wsV RX5 76 RX5 yX5_know wsX5_know) := goodIn_app (goodIn_of _ (by decide +kernel)) ggX5_write_X5_know
set_option maxRecDepth 20000 in
theorem ggX5_write_X5_writes : GoodIn wsX5_write wsX5_writes := goodIn_r _ [23, 6, 24, 25, 4, 26, 27, 28, 29, 30, 31, 32, 33, 34, 35, 36, 37, 38, 39, 40, 41, 42, 43, 44, 45, 46] (by decide +kernel) (by decide +kernel)
set_option maxRecDepth 20000 in
theorem gX5_write_X5_writes : GoodIn wsX5_write (wsV RX5 82 RX5 yX5_writes wsX5_writes) := goodIn_app (goodIn_of _ (by decide +kernel)) ggX5_write_X5_writes
theorem dX5_write_0 : decode cX5_write 0 = .ok (.aload_n 0, 1) := by decide +kernel
theorem dX5_write_1 : decode cX5_write 1 = .ok (.iload_n 1, 1) := by decide +kernel
theorem dX5_write_2 : decode cX5_write 2 = .ok (.iload_n 2, 1) := by decide +kernel
theorem dX5_write_3 : decode cX5_write 3 = .ok (.invokevirtual 79, 3) := by decide +kernel
theorem dX5_write_6 : decode cX5_write 6 = .ok (.istore_n 3, 1) := by decide +kernel
theorem dX5_write_7 : decode cX5_write 7 = .ok (.iload_n 3, 1) := by decide +kernel
theorem dX5_write_8 : decode cX5_write 8 = .ok (.ifCond .ge 5, 3) := by decide +kernel
theorem dX5_write_11 : decode cX5_write 11 = .ok (.iload_n 3, 1) := by decide +kernel
theorem dX5_write_12 : decode cX5_write 12 = .ok (.ireturn, 1) := by decide +kernel
theorem dX5_write_13 : decode cX5_write 13 = .ok (.aload_n 0, 1) := by decide +kernel
theorem dX5_write_14 : decode cX5_write 14 = .ok (.invokevirtual 76, 3) := by decide +kernel
theorem dX5_write_17 : decode cX5_write 17 = .ok (.aload_n 0, 1) := by decide +kernel
theorem dX5_write_18 : decode cX5_write 18 = .ok (.iload_n 1, 1) := by decide +kernel
theorem dX5_write_19 : decode cX5_write 19 = .ok (.iload_n 2, 1) := by decide +kernel
theorem dX5_write_20 : decode cX5_write 20 = .ok (.invokevirtual 82, 3) := by decide +kernel
theorem dX5_write_23 : decode cX5_write 23 = .ok (.ireturn, 1) := by decide +kernel
set_option maxRecDepth 20000 in
theorem ggX5_await_X5_awaitFault : GoodIn wsX5_await wsX5_awaitFault := goodIn_r _ [5, 6, 7, 4, 8] (by decide +kernel) (by decide +kernel)
set_option maxRecDepth 20000 in
theorem gX5_await_X5_awaitFault : GoodIn wsX5_await (wsV RX5 85 RX5 yX5_awaitFault wsX5_awaitFault) := goodIn_app (goodIn_of _ (by decide +kernel)) ggX5_await_X5_awaitFault
set_option maxRecDepth 20000 in
theorem ggX5_await_X5_know : GoodIn wsX5_await wsX5_know := goodIn_r _ [12, 13, 14, 15, 20, 21, 22, 23, 24, 25, 26, 27, 28, 29, 30, 31, 32] (by decide +kernel) (by decide +kernel)
set_option maxRecDepth 20000 in
theorem gX5_await_X5_know : GoodIn wsX5_await (wsV RX5 76 RX5 yX5_know wsX5_know) := goodIn_app (goodIn_of _ (by decide +kernel)) ggX5_await_X5_know
set_option maxRecDepth 20000 in
theorem ggX5_await_X5_awaits : GoodIn wsX5_await wsX5_awaits := goodIn_r _ [19, 15, 20, 21, 22, 23, 24, 25, 26, 27, 28, 29, 30, 31, 32] (by decide +kernel) (by decide +kernel)
set_option maxRecDepth 20000 in
theorem gX5_await_X5_awaits : GoodIn wsX5_await (wsV RX5 88 RX5 yX5_awaits wsX5_awaits) := goodIn_app (goodIn_of _ (by decide +kernel)) ggX5_await_X5_awaits
theorem dX5_await_0 : decode cX5_await 0 = .ok (.aload_n 0, 1) := by decide +kernel
theorem dX5_await_1 : decode cX5_await 1 = .ok (.iload_n 1, 1) := by decide +kernel
theorem dX5_await_2 : decode cX5_await 2 = .ok (.iload_n 2, 1) := by decide +kernel
theorem dX5_await_3 : decode cX5_await 3 = .ok (.invokevirtual 85, 3) := by decide +kernel
theorem dX5_await_6 : decode cX5_await 6 = .ok (.istore_n 3, 1) := by decide +kernel
theorem dX5_await_7 : decode cX5_await 7 = .ok (.iload_n 3, 1) := by decide +kernel
theorem dX5_await_8 : decode cX5_await 8 = .ok (.ifCond .ge 5, 3) := by decide +kernel
theorem dX5_await_11 : decode cX5_await 11 = .ok (.iload_n 3, 1) := by decide +kernel
theorem dX5_await_12 : decode cX5_await 12 = .ok (.ireturn, 1) := by decide +kernel
theorem dX5_await_13 : decode cX5_await 13 = .ok (.aload_n 0, 1) := by decide +kernel
theorem dX5_await_14 : decode cX5_await 14 = .ok (.invokevirtual 76, 3) := by decide +kernel
theorem dX5_await_17 : decode cX5_await 17 = .ok (.aload_n 0, 1) := by decide +kernel
theorem dX5_await_18 : decode cX5_await 18 = .ok (.iload_n 1, 1) := by decide +kernel
theorem dX5_await_19 : decode cX5_await 19 = .ok (.iload_n 2, 1) := by decide +kernel
theorem dX5_await_20 : decode cX5_await 20 = .ok (.invokevirtual 88, 3) := by decide +kernel
theorem dX5_await_23 : decode cX5_await 23 = .ok (.ireturn, 1) := by decide +kernel
set_option maxRecDepth 20000 in
theorem ggX5_wipeOut_X5_wipeFault : GoodIn wsX5_wipeOut wsX5_wipeFault := goodIn_r _ [5, 6, 7, 4, 8, 9, 10, 11, 12, 13, 27, 28, 29, 30, 31, 32, 33, 34, 35, 36, 37, 38, 39] (by decide +kernel) (by decide +kernel)
set_option maxRecDepth 20000 in
theorem gX5_wipeOut_X5_wipeFault : GoodIn wsX5_wipeOut (wsV RX5 91 RX5 yX5_wipeFault wsX5_wipeFault) := goodIn_app (goodIn_of _ (by decide +kernel)) ggX5_wipeOut_X5_wipeFault
set_option maxRecDepth 20000 in
theorem ggX5_wipeOut_X5_know : GoodIn wsX5_wipeOut wsX5_know := goodIn_r _ [17, 18, 19, 13, 27, 28, 29, 30, 31, 32, 33, 34, 35, 36, 37, 38, 39] (by decide +kernel) (by decide +kernel)
set_option maxRecDepth 20000 in
theorem gX5_wipeOut_X5_know : GoodIn wsX5_wipeOut (wsV RX5 76 RX5 yX5_know wsX5_know) := goodIn_app (goodIn_of _ (by decide +kernel)) ggX5_wipeOut_X5_know
set_option maxRecDepth 20000 in
theorem ggX5_wipeOut_X5_wipes : GoodIn wsX5_wipeOut wsX5_wipes := goodIn_r _ [23, 13, 24, 25, 4, 26, 27, 28, 29, 30, 31, 32, 33, 34, 35, 36, 37, 38, 39] (by decide +kernel) (by decide +kernel)
set_option maxRecDepth 20000 in
theorem gX5_wipeOut_X5_wipes : GoodIn wsX5_wipeOut (wsV RX5 94 RX5 yX5_wipes wsX5_wipes) := goodIn_app (goodIn_of _ (by decide +kernel)) ggX5_wipeOut_X5_wipes
theorem dX5_wipeOut_0 : decode cX5_wipeOut 0 = .ok (.aload_n 0, 1) := by decide +kernel
theorem dX5_wipeOut_1 : decode cX5_wipeOut 1 = .ok (.iload_n 1, 1) := by decide +kernel
theorem dX5_wipeOut_2 : decode cX5_wipeOut 2 = .ok (.iload_n 2, 1) := by decide +kernel
theorem dX5_wipeOut_3 : decode cX5_wipeOut 3 = .ok (.invokevirtual 91, 3) := by decide +kernel
theorem dX5_wipeOut_6 : decode cX5_wipeOut 6 = .ok (.istore_n 3, 1) := by decide +kernel
theorem dX5_wipeOut_7 : decode cX5_wipeOut 7 = .ok (.iload_n 3, 1) := by decide +kernel
theorem dX5_wipeOut_8 : decode cX5_wipeOut 8 = .ok (.ifCond .ge 5, 3) := by decide +kernel
theorem dX5_wipeOut_11 : decode cX5_wipeOut 11 = .ok (.iload_n 3, 1) := by decide +kernel
theorem dX5_wipeOut_12 : decode cX5_wipeOut 12 = .ok (.ireturn, 1) := by decide +kernel
theorem dX5_wipeOut_13 : decode cX5_wipeOut 13 = .ok (.aload_n 0, 1) := by decide +kernel
theorem dX5_wipeOut_14 : decode cX5_wipeOut 14 = .ok (.invokevirtual 76, 3) := by decide +kernel
theorem dX5_wipeOut_17 : decode cX5_wipeOut 17 = .ok (.aload_n 0, 1) := by decide +kernel
theorem dX5_wipeOut_18 : decode cX5_wipeOut 18 = .ok (.iload_n 1, 1) := by decide +kernel
theorem dX5_wipeOut_19 : decode cX5_wipeOut 19 = .ok (.iload_n 2, 1) := by decide +kernel
theorem dX5_wipeOut_20 : decode cX5_wipeOut 20 = .ok (.invokevirtual 94, 3) := by decide +kernel
theorem dX5_wipeOut_23 : decode cX5_wipeOut 23 = .ok (.ireturn, 1) := by decide +kernel
set_option maxRecDepth 20000 in
theorem ggX5_read_X5_isPlace : GoodIn wsX5_read wsX5_isPlace := goodIn_r _ [5, 6, 7, 8, 4, 9, 46, 47, 48, 49, 50, 51, 52, 53, 54, 55, 56, 57, 58] (by decide +kernel) (by decide +kernel)
set_option maxRecDepth 20000 in
theorem gX5_read_X5_isPlace : GoodIn wsX5_read (wsV RX5 55 RX5 yX5_isPlace wsX5_isPlace) := goodIn_app (goodIn_of _ (by decide +kernel)) ggX5_read_X5_isPlace
set_option maxRecDepth 20000 in
theorem ggX5_read_X5_know : GoodIn wsX5_read wsX5_know := goodIn_r _ [13, 14, 15, 6, 46, 47, 48, 49, 50, 51, 52, 53, 54, 55, 56, 57, 58] (by decide +kernel) (by decide +kernel)
set_option maxRecDepth 20000 in
theorem gX5_read_X5_know : GoodIn wsX5_read (wsV RX5 76 RX5 yX5_know wsX5_know) := goodIn_app (goodIn_of _ (by decide +kernel)) ggX5_read_X5_know
set_option maxRecDepth 20000 in
theorem ggX5_read_X5_reads : GoodIn wsX5_read wsX5_reads := goodIn_r _ [19, 6, 20, 21, 22, 4, 23, 24, 25, 26, 27, 28, 29, 30, 31, 32, 33, 34, 35, 36, 37, 38, 39, 40, 41, 42, 43, 44, 45, 46, 47, 48, 49, 50, 51, 52, 53, 54, 55, 56, 57, 58] (by decide +kernel) (by decide +kernel)
set_option maxRecDepth 20000 in
theorem gX5_read_X5_reads : GoodIn wsX5_read (wsV RX5 97 RX5 yX5_reads wsX5_reads) := goodIn_app (goodIn_of _ (by decide +kernel)) ggX5_read_X5_reads
theorem dX5_read_0 : decode cX5_read 0 = .ok (.aload_n 0, 1) := by decide +kernel
theorem dX5_read_1 : decode cX5_read 1 = .ok (.iload_n 1, 1) := by decide +kernel
theorem dX5_read_2 : decode cX5_read 2 = .ok (.invokevirtual 55, 3) := by decide +kernel
theorem dX5_read_5 : decode cX5_read 5 = .ok (.ifCond .ne 5, 3) := by decide +kernel
theorem dX5_read_8 : decode cX5_read 8 = .ok (.iconst (-1), 1) := by decide +kernel
theorem dX5_read_9 : decode cX5_read 9 = .ok (.ireturn, 1) := by decide +kernel
theorem dX5_read_10 : decode cX5_read 10 = .ok (.aload_n 0, 1) := by decide +kernel
theorem dX5_read_11 : decode cX5_read 11 = .ok (.invokevirtual 76, 3) := by decide +kernel
theorem dX5_read_14 : decode cX5_read 14 = .ok (.aload_n 0, 1) := by decide +kernel
theorem dX5_read_15 : decode cX5_read 15 = .ok (.iload_n 1, 1) := by decide +kernel
theorem dX5_read_16 : decode cX5_read 16 = .ok (.invokevirtual 97, 3) := by decide +kernel
theorem dX5_read_19 : decode cX5_read 19 = .ok (.ireturn, 1) := by decide +kernel
set_option maxRecDepth 20000 in
theorem ggX5_mend_X5_isPlace : GoodIn wsX5_mend wsX5_isPlace := goodIn_r _ [5, 6, 7, 8, 4, 9, 42, 43, 44, 45, 46, 47, 48, 49, 50, 51, 52, 53, 54] (by decide +kernel) (by decide +kernel)
set_option maxRecDepth 20000 in
theorem gX5_mend_X5_isPlace : GoodIn wsX5_mend (wsV RX5 55 RX5 yX5_isPlace wsX5_isPlace) := goodIn_app (goodIn_of _ (by decide +kernel)) ggX5_mend_X5_isPlace
set_option maxRecDepth 20000 in
theorem ggX5_mend_X5_know : GoodIn wsX5_mend wsX5_know := goodIn_r _ [13, 14, 15, 6, 42, 43, 44, 45, 46, 47, 48, 49, 50, 51, 52, 53, 54] (by decide +kernel) (by decide +kernel)
set_option maxRecDepth 20000 in
theorem gX5_mend_X5_know : GoodIn wsX5_mend (wsV RX5 76 RX5 yX5_know wsX5_know) := goodIn_app (goodIn_of _ (by decide +kernel)) ggX5_mend_X5_know
set_option maxRecDepth 20000 in
theorem ggX5_mend_X5_mends : GoodIn wsX5_mend wsX5_mends := goodIn_r _ [19, 6, 20, 21, 22, 4, 23, 24, 25, 26, 27, 28, 29, 30, 31, 32, 33, 34, 35, 36, 37, 38, 39, 40, 41, 42, 43, 44, 45, 46, 47, 48, 49, 50, 51, 52, 53, 54] (by decide +kernel) (by decide +kernel)
set_option maxRecDepth 20000 in
theorem gX5_mend_X5_mends : GoodIn wsX5_mend (wsV RX5 73 RX5 yX5_mends wsX5_mends) := goodIn_app (goodIn_of _ (by decide +kernel)) ggX5_mend_X5_mends
theorem dX5_mend_0 : decode cX5_mend 0 = .ok (.aload_n 0, 1) := by decide +kernel
theorem dX5_mend_1 : decode cX5_mend 1 = .ok (.iload_n 1, 1) := by decide +kernel
theorem dX5_mend_2 : decode cX5_mend 2 = .ok (.invokevirtual 55, 3) := by decide +kernel
theorem dX5_mend_5 : decode cX5_mend 5 = .ok (.ifCond .ne 5, 3) := by decide +kernel
theorem dX5_mend_8 : decode cX5_mend 8 = .ok (.iconst (-1), 1) := by decide +kernel
theorem dX5_mend_9 : decode cX5_mend 9 = .ok (.ireturn, 1) := by decide +kernel
theorem dX5_mend_10 : decode cX5_mend 10 = .ok (.aload_n 0, 1) := by decide +kernel
theorem dX5_mend_11 : decode cX5_mend 11 = .ok (.invokevirtual 76, 3) := by decide +kernel
theorem dX5_mend_14 : decode cX5_mend 14 = .ok (.aload_n 0, 1) := by decide +kernel
theorem dX5_mend_15 : decode cX5_mend 15 = .ok (.iload_n 1, 1) := by decide +kernel
theorem dX5_mend_16 : decode cX5_mend 16 = .ok (.invokevirtual 73, 3) := by decide +kernel
theorem dX5_mend_19 : decode cX5_mend 19 = .ok (.ireturn, 1) := by decide +kernel
set_option maxRecDepth 20000 in
theorem ggX5_scrub_X5_know : GoodIn wsX5_scrub wsX5_know := goodIn_r _ [5, 6, 7, 8, 39, 40, 41, 42, 43, 44, 45, 46, 47, 48, 49, 50, 51] (by decide +kernel) (by decide +kernel)
set_option maxRecDepth 20000 in
theorem gX5_scrub_X5_know : GoodIn wsX5_scrub (wsV RX5 76 RX5 yX5_know wsX5_know) := goodIn_app (goodIn_of _ (by decide +kernel)) ggX5_scrub_X5_know
set_option maxRecDepth 20000 in
theorem ggX5_scrub_X5_scrubs : GoodIn wsX5_scrub wsX5_scrubs := goodIn_r _ [12, 8, 13, 14, 15, 4, 16, 17, 18, 19, 20, 21, 22, 23, 24, 25, 26, 27, 28, 29, 30, 31, 32, 33, 34, 35, 36, 37, 38, 39, 40, 41, 42, 43, 44, 45, 46, 47, 48, 49, 50, 51] (by decide +kernel) (by decide +kernel)
set_option maxRecDepth 20000 in
theorem gX5_scrub_X5_scrubs : GoodIn wsX5_scrub (wsV RX5 100 RX5 yX5_scrubs wsX5_scrubs) := goodIn_app (goodIn_of _ (by decide +kernel)) ggX5_scrub_X5_scrubs
theorem dX5_scrub_0 : decode cX5_scrub 0 = .ok (.aload_n 0, 1) := by decide +kernel
theorem dX5_scrub_1 : decode cX5_scrub 1 = .ok (.invokevirtual 76, 3) := by decide +kernel
theorem dX5_scrub_4 : decode cX5_scrub 4 = .ok (.aload_n 0, 1) := by decide +kernel
theorem dX5_scrub_5 : decode cX5_scrub 5 = .ok (.invokevirtual 100, 3) := by decide +kernel
theorem dX5_scrub_8 : decode cX5_scrub 8 = .ok (.ireturn, 1) := by decide +kernel
set_option maxRecDepth 20000 in
theorem ggX5_block_X5_wipeFault : GoodIn wsX5_block wsX5_wipeFault := goodIn_r _ [6, 7, 8, 5, 9, 10, 11, 12, 13, 1, 28, 29, 30, 31, 32, 33, 34, 35, 36, 37, 38, 39, 40] (by decide +kernel) (by decide +kernel)
set_option maxRecDepth 20000 in
theorem gX5_block_X5_wipeFault : GoodIn wsX5_block (wsV RX5 91 RX5 yX5_wipeFault wsX5_wipeFault) := goodIn_app (goodIn_of _ (by decide +kernel)) ggX5_block_X5_wipeFault
set_option maxRecDepth 20000 in
theorem ggX5_block_X5_of : GoodIn wsX5_block wsX5_of := goodIn_r _ [16] (by decide +kernel) (by decide +kernel)
set_option maxRecDepth 20000 in
theorem gX5_block_X5_of : GoodIn wsX5_block (va_wsS RX5 37 yX5_of wsX5_of) := goodIn_app (goodIn_of _ (by decide +kernel)) ggX5_block_X5_of
set_option maxRecDepth 20000 in
theorem ggX5_block_X5_isWhole : GoodIn wsX5_block wsX5_isWhole := goodIn_r _ [20, 1, 14, 15, 5, 16, 21, 22, 23, 28, 29, 30, 31, 32, 33, 34, 35, 36, 37, 38, 39, 40] (by decide +kernel) (by decide +kernel)
set_option maxRecDepth 20000 in
theorem gX5_block_X5_isWhole : GoodIn wsX5_block (wsV RX5 44 RX5 yX5_isWhole wsX5_isWhole) := goodIn_app (goodIn_of _ (by decide +kernel)) ggX5_block_X5_isWhole
set_option maxRecDepth 20000 in
theorem ggX5_block_X5_reason : GoodIn wsX5_block wsX5_reason := goodIn_r _ [27, 1, 14, 15, 5, 16, 17, 18, 19, 20, 21, 22, 23, 28, 29, 30, 31, 32, 33, 34, 35, 36, 37, 38, 39, 40] (by decide +kernel) (by decide +kernel)
set_option maxRecDepth 20000 in
theorem gX5_block_X5_reason : GoodIn wsX5_block (wsV RX5 48 RX5 yX5_reason wsX5_reason) := goodIn_app (goodIn_of _ (by decide +kernel)) ggX5_block_X5_reason
theorem dX5_block_0 : decode cX5_block 0 = .ok (.aload_n 0, 1) := by decide +kernel
theorem dX5_block_1 : decode cX5_block 1 = .ok (.iload_n 1, 1) := by decide +kernel
theorem dX5_block_2 : decode cX5_block 2 = .ok (.iload_n 2, 1) := by decide +kernel
theorem dX5_block_3 : decode cX5_block 3 = .ok (.invokevirtual 91, 3) := by decide +kernel
theorem dX5_block_6 : decode cX5_block 6 = .ok (.ifCond .ge 5, 3) := by decide +kernel
theorem dX5_block_9 : decode cX5_block 9 = .ok (.iconst (-1), 1) := by decide +kernel
theorem dX5_block_10 : decode cX5_block 10 = .ok (.ireturn, 1) := by decide +kernel
theorem dX5_block_11 : decode cX5_block 11 = .ok (.iload_n 3, 1) := by decide +kernel
theorem dX5_block_12 : decode cX5_block 12 = .ok (.tableswitch 112 0 5 #[40, 40, 40, 40, 73, 88], 40) := by decide +kernel
theorem dX5_block_52 : decode cX5_block 52 = .ok (.aload_n 0, 1) := by decide +kernel
theorem dX5_block_53 : decode cX5_block 53 = .ok (.getfield 7, 3) := by decide +kernel
theorem dX5_block_56 : decode cX5_block 56 = .ok (.iload_n 1, 1) := by decide +kernel
theorem dX5_block_57 : decode cX5_block 57 = .ok (.iload_n 2, 1) := by decide +kernel
theorem dX5_block_58 : decode cX5_block 58 = .ok (.iconst 0, 1) := by decide +kernel
theorem dX5_block_59 : decode cX5_block 59 = .ok (.invokestatic 37, 3) := by decide +kernel
theorem dX5_block_62 : decode cX5_block 62 = .ok (.iaload, 1) := by decide +kernel
theorem dX5_block_63 : decode cX5_block 63 = .ok (.ifCond .ne 8, 3) := by decide +kernel
theorem dX5_block_66 : decode cX5_block 66 = .ok (.bipush (-6), 2) := by decide +kernel
theorem dX5_block_68 : decode cX5_block 68 = .ok (.goto 16, 3) := by decide +kernel
theorem dX5_block_71 : decode cX5_block 71 = .ok (.aload_n 0, 1) := by decide +kernel
theorem dX5_block_72 : decode cX5_block 72 = .ok (.getfield 7, 3) := by decide +kernel
theorem dX5_block_75 : decode cX5_block 75 = .ok (.iload_n 1, 1) := by decide +kernel
theorem dX5_block_76 : decode cX5_block 76 = .ok (.iload_n 2, 1) := by decide +kernel
theorem dX5_block_77 : decode cX5_block 77 = .ok (.iconst 1, 1) := by decide +kernel
theorem dX5_block_78 : decode cX5_block 78 = .ok (.iload_n 3, 1) := by decide +kernel
theorem dX5_block_79 : decode cX5_block 79 = .ok (.iadd, 1) := by decide +kernel
theorem dX5_block_80 : decode cX5_block 80 = .ok (.invokestatic 37, 3) := by decide +kernel
theorem dX5_block_83 : decode cX5_block 83 = .ok (.iaload, 1) := by decide +kernel
theorem dX5_block_84 : decode cX5_block 84 = .ok (.ireturn, 1) := by decide +kernel
theorem dX5_block_85 : decode cX5_block 85 = .ok (.aload_n 0, 1) := by decide +kernel
theorem dX5_block_86 : decode cX5_block 86 = .ok (.iload_n 1, 1) := by decide +kernel
theorem dX5_block_87 : decode cX5_block 87 = .ok (.iload_n 2, 1) := by decide +kernel
theorem dX5_block_88 : decode cX5_block 88 = .ok (.invokevirtual 44, 3) := by decide +kernel
theorem dX5_block_91 : decode cX5_block 91 = .ok (.ifCond .eq 7, 3) := by decide +kernel
theorem dX5_block_94 : decode cX5_block 94 = .ok (.iconst 1, 1) := by decide +kernel
theorem dX5_block_95 : decode cX5_block 95 = .ok (.goto 4, 3) := by decide +kernel
theorem dX5_block_98 : decode cX5_block 98 = .ok (.iconst 0, 1) := by decide +kernel
theorem dX5_block_99 : decode cX5_block 99 = .ok (.ireturn, 1) := by decide +kernel
theorem dX5_block_100 : decode cX5_block 100 = .ok (.aload_n 0, 1) := by decide +kernel
theorem dX5_block_101 : decode cX5_block 101 = .ok (.getfield 7, 3) := by decide +kernel
theorem dX5_block_104 : decode cX5_block 104 = .ok (.bipush 8, 2) := by decide +kernel
theorem dX5_block_106 : decode cX5_block 106 = .ok (.iload_n 2, 1) := by decide +kernel
theorem dX5_block_107 : decode cX5_block 107 = .ok (.iadd, 1) := by decide +kernel
theorem dX5_block_108 : decode cX5_block 108 = .ok (.iaload, 1) := by decide +kernel
theorem dX5_block_109 : decode cX5_block 109 = .ok (.ifCond .ne 8, 3) := by decide +kernel
theorem dX5_block_112 : decode cX5_block 112 = .ok (.bipush (-6), 2) := by decide +kernel
theorem dX5_block_114 : decode cX5_block 114 = .ok (.goto 9, 3) := by decide +kernel
theorem dX5_block_117 : decode cX5_block 117 = .ok (.aload_n 0, 1) := by decide +kernel
theorem dX5_block_118 : decode cX5_block 118 = .ok (.iload_n 1, 1) := by decide +kernel
theorem dX5_block_119 : decode cX5_block 119 = .ok (.iload_n 2, 1) := by decide +kernel
theorem dX5_block_120 : decode cX5_block 120 = .ok (.invokevirtual 48, 3) := by decide +kernel
theorem dX5_block_123 : decode cX5_block 123 = .ok (.ireturn, 1) := by decide +kernel
theorem dX5_block_124 : decode cX5_block 124 = .ok (.bipush (-2), 2) := by decide +kernel
theorem dX5_block_126 : decode cX5_block 126 = .ok (.ireturn, 1) := by decide +kernel
set_option maxRecDepth 20000 in
theorem ggX5_round_X5_isPlace : GoodIn wsX5_round wsX5_isPlace := goodIn_r _ [6, 1, 7, 8, 5, 9, 10, 11, 12, 13, 14, 15, 16, 17, 18, 19, 20, 21, 22] (by decide +kernel) (by decide +kernel)
set_option maxRecDepth 20000 in
theorem gX5_round_X5_isPlace : GoodIn wsX5_round (wsV RX5 55 RX5 yX5_isPlace wsX5_isPlace) := goodIn_app (goodIn_of _ (by decide +kernel)) ggX5_round_X5_isPlace
theorem dX5_round_0 : decode cX5_round 0 = .ok (.aload_n 0, 1) := by decide +kernel
theorem dX5_round_1 : decode cX5_round 1 = .ok (.iload_n 1, 1) := by decide +kernel
theorem dX5_round_2 : decode cX5_round 2 = .ok (.invokevirtual 55, 3) := by decide +kernel
theorem dX5_round_5 : decode cX5_round 5 = .ok (.ifCond .eq 15, 3) := by decide +kernel
theorem dX5_round_8 : decode cX5_round 8 = .ok (.aload_n 0, 1) := by decide +kernel
theorem dX5_round_9 : decode cX5_round 9 = .ok (.getfield 7, 3) := by decide +kernel
theorem dX5_round_12 : decode cX5_round 12 = .ok (.bipush 8, 2) := by decide +kernel
theorem dX5_round_14 : decode cX5_round 14 = .ok (.iload_n 1, 1) := by decide +kernel
theorem dX5_round_15 : decode cX5_round 15 = .ok (.iadd, 1) := by decide +kernel
theorem dX5_round_16 : decode cX5_round 16 = .ok (.iaload, 1) := by decide +kernel
theorem dX5_round_17 : decode cX5_round 17 = .ok (.goto 4, 3) := by decide +kernel
theorem dX5_round_20 : decode cX5_round 20 = .ok (.iconst (-1), 1) := by decide +kernel
theorem dX5_round_21 : decode cX5_round 21 = .ok (.ireturn, 1) := by decide +kernel
set_option maxRecDepth 20000 in
theorem ggX5_isAstray_X5_of : GoodIn wsX5_isAstray wsX5_of := goodIn_r _ [5] (by decide +kernel) (by decide +kernel)
set_option maxRecDepth 20000 in
theorem gX5_isAstray_X5_of : GoodIn wsX5_isAstray (va_wsS RX5 37 yX5_of wsX5_of) := goodIn_app (goodIn_of _ (by decide +kernel)) ggX5_isAstray_X5_of
theorem dX5_isAstray_0 : decode cX5_isAstray 0 = .ok (.aload_n 0, 1) := by decide +kernel
theorem dX5_isAstray_1 : decode cX5_isAstray 1 = .ok (.getfield 7, 3) := by decide +kernel
theorem dX5_isAstray_4 : decode cX5_isAstray 4 = .ok (.iload_n 1, 1) := by decide +kernel
theorem dX5_isAstray_5 : decode cX5_isAstray 5 = .ok (.iload_n 2, 1) := by decide +kernel
theorem dX5_isAstray_6 : decode cX5_isAstray 6 = .ok (.iconst 0, 1) := by decide +kernel
theorem dX5_isAstray_7 : decode cX5_isAstray 7 = .ok (.invokestatic 37, 3) := by decide +kernel
theorem dX5_isAstray_10 : decode cX5_isAstray 10 = .ok (.iaload, 1) := by decide +kernel
theorem dX5_isAstray_11 : decode cX5_isAstray 11 = .ok (.iconst 1, 1) := by decide +kernel
theorem dX5_isAstray_12 : decode cX5_isAstray 12 = .ok (.if_icmp .ne 22, 3) := by decide +kernel
theorem dX5_isAstray_15 : decode cX5_isAstray 15 = .ok (.aload_n 0, 1) := by decide +kernel
theorem dX5_isAstray_16 : decode cX5_isAstray 16 = .ok (.getfield 7, 3) := by decide +kernel
theorem dX5_isAstray_19 : decode cX5_isAstray 19 = .ok (.iload_n 1, 1) := by decide +kernel
theorem dX5_isAstray_20 : decode cX5_isAstray 20 = .ok (.iload_n 2, 1) := by decide +kernel
theorem dX5_isAstray_21 : decode cX5_isAstray 21 = .ok (.iconst 1, 1) := by decide +kernel
theorem dX5_isAstray_22 : decode cX5_isAstray 22 = .ok (.invokestatic 37, 3) := by decide +kernel
theorem dX5_isAstray_25 : decode cX5_isAstray 25 = .ok (.iaload, 1) := by decide +kernel
theorem dX5_isAstray_26 : decode cX5_isAstray 26 = .ok (.iload_n 2, 1) := by decide +kernel
theorem dX5_isAstray_27 : decode cX5_isAstray 27 = .ok (.if_icmp .eq 7, 3) := by decide +kernel
theorem dX5_isAstray_30 : decode cX5_isAstray 30 = .ok (.iconst 1, 1) := by decide +kernel
theorem dX5_isAstray_31 : decode cX5_isAstray 31 = .ok (.goto 4, 3) := by decide +kernel
theorem dX5_isAstray_34 : decode cX5_isAstray 34 = .ok (.iconst 0, 1) := by decide +kernel
theorem dX5_isAstray_35 : decode cX5_isAstray 35 = .ok (.ireturn, 1) := by decide +kernel
set_option maxRecDepth 20000 in
theorem ggX5_isSo_X5_isBelieved : GoodIn wsX5_isSo wsX5_isBelieved := goodIn_r _ [6, 1, 7, 8, 9, 5, 10, 11, 12, 13, 14, 15, 16, 17, 18, 19, 20, 33, 34, 35, 36, 37, 38, 39, 40, 41, 42, 43, 44, 45] (by decide +kernel) (by decide +kernel)
set_option maxRecDepth 20000 in
theorem gX5_isSo_X5_isBelieved : GoodIn wsX5_isSo (wsV RX5 52 RX5 yX5_isBelieved wsX5_isBelieved) := goodIn_app (goodIn_of _ (by decide +kernel)) ggX5_isSo_X5_isBelieved
set_option maxRecDepth 20000 in
theorem ggX5_isSo_X5_isLost : GoodIn wsX5_isSo wsX5_isLost := goodIn_r _ [24, 1, 2, 3, 4, 5, 6, 7, 8, 9, 10, 11, 12, 13, 14, 15, 16, 17, 18, 19, 20, 33, 34, 35, 36, 37, 38, 39, 40, 41, 42, 43, 44, 45] (by decide +kernel) (by decide +kernel)
set_option maxRecDepth 20000 in
theorem gX5_isSo_X5_isLost : GoodIn wsX5_isSo (wsV RX5 63 RX5 yX5_isLost wsX5_isLost) := goodIn_app (goodIn_of _ (by decide +kernel)) ggX5_isSo_X5_isLost
set_option maxRecDepth 20000 in
theorem ggX5_isSo_X5_canMend : GoodIn wsX5_isSo wsX5_canMend := goodIn_r _ [28, 2, 3, 4, 5, 6, 1, 7, 8, 9, 10, 11, 12, 13, 14, 15, 16, 17, 18, 19, 20, 33, 34, 35, 36, 37, 38, 39, 40, 41, 42, 43, 44, 45] (by decide +kernel) (by decide +kernel)
set_option maxRecDepth 20000 in
theorem gX5_isSo_X5_canMend : GoodIn wsX5_isSo (wsV RX5 70 RX5 yX5_canMend wsX5_canMend) := goodIn_app (goodIn_of _ (by decide +kernel)) ggX5_isSo_X5_canMend
set_option maxRecDepth 20000 in
theorem ggX5_isSo_X5_isAstray : GoodIn wsX5_isSo wsX5_isAstray := goodIn_r _ [32, 1, 11, 12, 5, 13, 33, 34, 35, 36, 37, 38, 39, 40, 41, 42, 43, 44, 45] (by decide +kernel) (by decide +kernel)
set_option maxRecDepth 20000 in
theorem gX5_isSo_X5_isAstray : GoodIn wsX5_isSo (wsV RX5 104 RX5 yX5_isAstray wsX5_isAstray) := goodIn_app (goodIn_of _ (by decide +kernel)) ggX5_isSo_X5_isAstray
theorem dX5_isSo_0 : decode cX5_isSo 0 = .ok (.iload_n 2, 1) := by decide +kernel
theorem dX5_isSo_1 : decode cX5_isSo 1 = .ok (.tableswitch 74 0 4 #[35, 53, 53, 62, 68], 35) := by decide +kernel
theorem dX5_isSo_36 : decode cX5_isSo 36 = .ok (.aload_n 0, 1) := by decide +kernel
theorem dX5_isSo_37 : decode cX5_isSo 37 = .ok (.getfield 7, 3) := by decide +kernel
theorem dX5_isSo_40 : decode cX5_isSo 40 = .ok (.bipush 8, 2) := by decide +kernel
theorem dX5_isSo_42 : decode cX5_isSo 42 = .ok (.iload_n 1, 1) := by decide +kernel
theorem dX5_isSo_43 : decode cX5_isSo 43 = .ok (.iadd, 1) := by decide +kernel
theorem dX5_isSo_44 : decode cX5_isSo 44 = .ok (.iaload, 1) := by decide +kernel
theorem dX5_isSo_45 : decode cX5_isSo 45 = .ok (.ifCond .le 7, 3) := by decide +kernel
theorem dX5_isSo_48 : decode cX5_isSo 48 = .ok (.iconst 1, 1) := by decide +kernel
theorem dX5_isSo_49 : decode cX5_isSo 49 = .ok (.goto 4, 3) := by decide +kernel
theorem dX5_isSo_52 : decode cX5_isSo 52 = .ok (.iconst 0, 1) := by decide +kernel
theorem dX5_isSo_53 : decode cX5_isSo 53 = .ok (.ireturn, 1) := by decide +kernel
theorem dX5_isSo_54 : decode cX5_isSo 54 = .ok (.aload_n 0, 1) := by decide +kernel
theorem dX5_isSo_55 : decode cX5_isSo 55 = .ok (.iload_n 2, 1) := by decide +kernel
theorem dX5_isSo_56 : decode cX5_isSo 56 = .ok (.iconst 1, 1) := by decide +kernel
theorem dX5_isSo_57 : decode cX5_isSo 57 = .ok (.isub, 1) := by decide +kernel
theorem dX5_isSo_58 : decode cX5_isSo 58 = .ok (.iload_n 1, 1) := by decide +kernel
theorem dX5_isSo_59 : decode cX5_isSo 59 = .ok (.invokevirtual 52, 3) := by decide +kernel
theorem dX5_isSo_62 : decode cX5_isSo 62 = .ok (.ireturn, 1) := by decide +kernel
theorem dX5_isSo_63 : decode cX5_isSo 63 = .ok (.aload_n 0, 1) := by decide +kernel
theorem dX5_isSo_64 : decode cX5_isSo 64 = .ok (.iload_n 1, 1) := by decide +kernel
theorem dX5_isSo_65 : decode cX5_isSo 65 = .ok (.invokevirtual 63, 3) := by decide +kernel
theorem dX5_isSo_68 : decode cX5_isSo 68 = .ok (.ireturn, 1) := by decide +kernel
theorem dX5_isSo_69 : decode cX5_isSo 69 = .ok (.aload_n 0, 1) := by decide +kernel
theorem dX5_isSo_70 : decode cX5_isSo 70 = .ok (.iload_n 1, 1) := by decide +kernel
theorem dX5_isSo_71 : decode cX5_isSo 71 = .ok (.invokevirtual 70, 3) := by decide +kernel
theorem dX5_isSo_74 : decode cX5_isSo 74 = .ok (.ireturn, 1) := by decide +kernel
theorem dX5_isSo_75 : decode cX5_isSo 75 = .ok (.aload_n 0, 1) := by decide +kernel
theorem dX5_isSo_76 : decode cX5_isSo 76 = .ok (.iconst 0, 1) := by decide +kernel
theorem dX5_isSo_77 : decode cX5_isSo 77 = .ok (.iload_n 1, 1) := by decide +kernel
theorem dX5_isSo_78 : decode cX5_isSo 78 = .ok (.invokevirtual 104, 3) := by decide +kernel
theorem dX5_isSo_81 : decode cX5_isSo 81 = .ok (.ifCond .ne 12, 3) := by decide +kernel
theorem dX5_isSo_84 : decode cX5_isSo 84 = .ok (.aload_n 0, 1) := by decide +kernel
theorem dX5_isSo_85 : decode cX5_isSo 85 = .ok (.iconst 1, 1) := by decide +kernel
theorem dX5_isSo_86 : decode cX5_isSo 86 = .ok (.iload_n 1, 1) := by decide +kernel
theorem dX5_isSo_87 : decode cX5_isSo 87 = .ok (.invokevirtual 104, 3) := by decide +kernel
theorem dX5_isSo_90 : decode cX5_isSo 90 = .ok (.ifCond .eq 7, 3) := by decide +kernel
theorem dX5_isSo_93 : decode cX5_isSo 93 = .ok (.iconst 1, 1) := by decide +kernel
theorem dX5_isSo_94 : decode cX5_isSo 94 = .ok (.goto 4, 3) := by decide +kernel
theorem dX5_isSo_97 : decode cX5_isSo 97 = .ok (.iconst 0, 1) := by decide +kernel
theorem dX5_isSo_98 : decode cX5_isSo 98 = .ok (.ireturn, 1) := by decide +kernel
set_option maxRecDepth 20000 in
theorem ggX5_places_X5_in : GoodIn wsX5_places wsX5_in := goodIn_r _ [6] (by decide +kernel) (by decide +kernel)
set_option maxRecDepth 20000 in
theorem gX5_places_X5_in : GoodIn wsX5_places (va_wsS RX5 29 yX5_in wsX5_in) := goodIn_app (goodIn_of _ (by decide +kernel)) ggX5_places_X5_in
set_option maxRecDepth 20000 in
theorem ggX5_places_X5_isSo : GoodIn wsX5_places wsX5_isSo := goodIn_r _ [10, 2, 11, 12, 13, 5, 14, 15, 16, 17, 18, 19, 20, 21, 22, 23, 24, 25, 26, 27, 28, 29, 30, 31, 32, 33, 34, 35, 36, 37, 38, 39, 40, 41, 42, 43, 44, 45, 46, 47, 48, 49, 50, 51, 52, 53] (by decide +kernel) (by decide +kernel)
set_option maxRecDepth 20000 in
theorem gX5_places_X5_isSo : GoodIn wsX5_places (wsV RX5 109 RX5 yX5_isSo wsX5_isSo) := goodIn_app (goodIn_of _ (by decide +kernel)) ggX5_places_X5_isSo
theorem dX5_places_0 : decode cX5_places 0 = .ok (.iload_n 1, 1) := by decide +kernel
theorem dX5_places_1 : decode cX5_places 1 = .ok (.iconst 0, 1) := by decide +kernel
theorem dX5_places_2 : decode cX5_places 2 = .ok (.iconst 5, 1) := by decide +kernel
theorem dX5_places_3 : decode cX5_places 3 = .ok (.invokestatic 29, 3) := by decide +kernel
theorem dX5_places_6 : decode cX5_places 6 = .ok (.ifCond .ne 7, 3) := by decide +kernel
theorem dX5_places_9 : decode cX5_places 9 = .ok (.ldc2_w 107, 3) := by decide +kernel
theorem dX5_places_12 : decode cX5_places 12 = .ok (.lreturn, 1) := by decide +kernel
theorem dX5_places_13 : decode cX5_places 13 = .ok (.lconst 0, 1) := by decide +kernel
theorem dX5_places_14 : decode cX5_places 14 = .ok (.lstore_n 2, 1) := by decide +kernel
theorem dX5_places_15 : decode cX5_places 15 = .ok (.iconst 0, 1) := by decide +kernel
theorem dX5_places_16 : decode cX5_places 16 = .ok (.istore 4, 2) := by decide +kernel
theorem dX5_places_18 : decode cX5_places 18 = .ok (.iload 4, 2) := by decide +kernel
theorem dX5_places_20 : decode cX5_places 20 = .ok (.aload_n 0, 1) := by decide +kernel
theorem dX5_places_21 : decode cX5_places 21 = .ok (.getfield 7, 3) := by decide +kernel
theorem dX5_places_24 : decode cX5_places 24 = .ok (.iconst 0, 1) := by decide +kernel
theorem dX5_places_25 : decode cX5_places 25 = .ok (.iaload, 1) := by decide +kernel
theorem dX5_places_26 : decode cX5_places 26 = .ok (.if_icmp .ge 30, 3) := by decide +kernel
theorem dX5_places_29 : decode cX5_places 29 = .ok (.lload_n 2, 1) := by decide +kernel
theorem dX5_places_30 : decode cX5_places 30 = .ok (.aload_n 0, 1) := by decide +kernel
theorem dX5_places_31 : decode cX5_places 31 = .ok (.iload 4, 2) := by decide +kernel
theorem dX5_places_33 : decode cX5_places 33 = .ok (.iload_n 1, 1) := by decide +kernel
theorem dX5_places_34 : decode cX5_places 34 = .ok (.invokevirtual 109, 3) := by decide +kernel
theorem dX5_places_37 : decode cX5_places 37 = .ok (.ifCond .eq 10, 3) := by decide +kernel
theorem dX5_places_40 : decode cX5_places 40 = .ok (.lconst 1, 1) := by decide +kernel
theorem dX5_places_41 : decode cX5_places 41 = .ok (.iload 4, 2) := by decide +kernel
theorem dX5_places_43 : decode cX5_places 43 = .ok (.lshl, 1) := by decide +kernel
theorem dX5_places_44 : decode cX5_places 44 = .ok (.goto 4, 3) := by decide +kernel
theorem dX5_places_47 : decode cX5_places 47 = .ok (.lconst 0, 1) := by decide +kernel
theorem dX5_places_48 : decode cX5_places 48 = .ok (.lor, 1) := by decide +kernel
theorem dX5_places_49 : decode cX5_places 49 = .ok (.lstore_n 2, 1) := by decide +kernel
theorem dX5_places_50 : decode cX5_places 50 = .ok (.iinc 4 1, 3) := by decide +kernel
theorem dX5_places_53 : decode cX5_places 53 = .ok (.goto (-35), 3) := by decide +kernel
theorem dX5_places_56 : decode cX5_places 56 = .ok (.lload_n 2, 1) := by decide +kernel
theorem dX5_places_57 : decode cX5_places 57 = .ok (.lreturn, 1) := by decide +kernel
set_option maxRecDepth 20000 in
theorem ggX5_many_X5_isSo : GoodIn wsX5_many wsX5_isSo := goodIn_r _ [6, 1, 7, 8, 9, 5, 10, 11, 12, 13, 14, 15, 16, 17, 18, 19, 20, 21, 22, 23, 24, 25, 26, 27, 28, 29, 30, 31, 32, 33, 34, 35, 36, 37, 38, 39, 40, 41, 42, 43, 44, 45, 46, 47, 48, 49] (by decide +kernel) (by decide +kernel)
set_option maxRecDepth 20000 in
theorem gX5_many_X5_isSo : GoodIn wsX5_many (wsV RX5 109 RX5 yX5_isSo wsX5_isSo) := goodIn_app (goodIn_of _ (by decide +kernel)) ggX5_many_X5_isSo
theorem dX5_many_0 : decode cX5_many 0 = .ok (.iconst 0, 1) := by decide +kernel
theorem dX5_many_1 : decode cX5_many 1 = .ok (.istore_n 2, 1) := by decide +kernel
theorem dX5_many_2 : decode cX5_many 2 = .ok (.iconst 0, 1) := by decide +kernel
theorem dX5_many_3 : decode cX5_many 3 = .ok (.istore_n 3, 1) := by decide +kernel
theorem dX5_many_4 : decode cX5_many 4 = .ok (.iload_n 3, 1) := by decide +kernel
theorem dX5_many_5 : decode cX5_many 5 = .ok (.aload_n 0, 1) := by decide +kernel
theorem dX5_many_6 : decode cX5_many 6 = .ok (.getfield 7, 3) := by decide +kernel
theorem dX5_many_9 : decode cX5_many 9 = .ok (.iconst 0, 1) := by decide +kernel
theorem dX5_many_10 : decode cX5_many 10 = .ok (.iaload, 1) := by decide +kernel
theorem dX5_many_11 : decode cX5_many 11 = .ok (.if_icmp .ge 26, 3) := by decide +kernel
theorem dX5_many_14 : decode cX5_many 14 = .ok (.iload_n 2, 1) := by decide +kernel
theorem dX5_many_15 : decode cX5_many 15 = .ok (.aload_n 0, 1) := by decide +kernel
theorem dX5_many_16 : decode cX5_many 16 = .ok (.iload_n 3, 1) := by decide +kernel
theorem dX5_many_17 : decode cX5_many 17 = .ok (.iload_n 1, 1) := by decide +kernel
theorem dX5_many_18 : decode cX5_many 18 = .ok (.invokevirtual 109, 3) := by decide +kernel
theorem dX5_many_21 : decode cX5_many 21 = .ok (.ifCond .eq 7, 3) := by decide +kernel
theorem dX5_many_24 : decode cX5_many 24 = .ok (.iconst 1, 1) := by decide +kernel
theorem dX5_many_25 : decode cX5_many 25 = .ok (.goto 4, 3) := by decide +kernel
theorem dX5_many_28 : decode cX5_many 28 = .ok (.iconst 0, 1) := by decide +kernel
theorem dX5_many_29 : decode cX5_many 29 = .ok (.iadd, 1) := by decide +kernel
theorem dX5_many_30 : decode cX5_many 30 = .ok (.istore_n 2, 1) := by decide +kernel
theorem dX5_many_31 : decode cX5_many 31 = .ok (.iinc 3 1, 3) := by decide +kernel
theorem dX5_many_34 : decode cX5_many 34 = .ok (.goto (-30), 3) := by decide +kernel
theorem dX5_many_37 : decode cX5_many 37 = .ok (.iload_n 2, 1) := by decide +kernel
theorem dX5_many_38 : decode cX5_many 38 = .ok (.ireturn, 1) := by decide +kernel
set_option maxRecDepth 20000 in
theorem ggX5_count_X5_in : GoodIn wsX5_count wsX5_in := goodIn_r _ [7] (by decide +kernel) (by decide +kernel)
set_option maxRecDepth 20000 in
theorem gX5_count_X5_in : GoodIn wsX5_count (va_wsS RX5 29 yX5_in wsX5_in) := goodIn_app (goodIn_of _ (by decide +kernel)) ggX5_count_X5_in
theorem dX5_count_0 : decode cX5_count 0 = .ok (.iload_n 1, 1) := by decide +kernel
theorem dX5_count_1 : decode cX5_count 1 = .ok (.bipush 8, 2) := by decide +kernel
theorem dX5_count_3 : decode cX5_count 3 = .ok (.if_icmp .ne 10, 3) := by decide +kernel
theorem dX5_count_6 : decode cX5_count 6 = .ok (.aload_n 0, 1) := by decide +kernel
theorem dX5_count_7 : decode cX5_count 7 = .ok (.getfield 112, 3) := by decide +kernel
theorem dX5_count_10 : decode cX5_count 10 = .ok (.goto 37, 3) := by decide +kernel
theorem dX5_count_13 : decode cX5_count 13 = .ok (.iload_n 1, 1) := by decide +kernel
theorem dX5_count_14 : decode cX5_count 14 = .ok (.bipush 9, 2) := by decide +kernel
theorem dX5_count_16 : decode cX5_count 16 = .ok (.if_icmp .ne 10, 3) := by decide +kernel
theorem dX5_count_19 : decode cX5_count 19 = .ok (.aload_n 0, 1) := by decide +kernel
theorem dX5_count_20 : decode cX5_count 20 = .ok (.getfield 33, 3) := by decide +kernel
theorem dX5_count_23 : decode cX5_count 23 = .ok (.goto 24, 3) := by decide +kernel
theorem dX5_count_26 : decode cX5_count 26 = .ok (.iload_n 1, 1) := by decide +kernel
theorem dX5_count_27 : decode cX5_count 27 = .ok (.iconst 0, 1) := by decide +kernel
theorem dX5_count_28 : decode cX5_count 28 = .ok (.bipush 7, 2) := by decide +kernel
theorem dX5_count_30 : decode cX5_count 30 = .ok (.invokestatic 29, 3) := by decide +kernel
theorem dX5_count_33 : decode cX5_count 33 = .ok (.ifCond .eq 12, 3) := by decide +kernel
theorem dX5_count_36 : decode cX5_count 36 = .ok (.aload_n 0, 1) := by decide +kernel
theorem dX5_count_37 : decode cX5_count 37 = .ok (.getfield 7, 3) := by decide +kernel
theorem dX5_count_40 : decode cX5_count 40 = .ok (.iload_n 1, 1) := by decide +kernel
theorem dX5_count_41 : decode cX5_count 41 = .ok (.iaload, 1) := by decide +kernel
theorem dX5_count_42 : decode cX5_count 42 = .ok (.goto 5, 3) := by decide +kernel
theorem dX5_count_45 : decode cX5_count 45 = .ok (.bipush (-2), 2) := by decide +kernel
theorem dX5_count_47 : decode cX5_count 47 = .ok (.ireturn, 1) := by decide +kernel
theorem dX5_bitsOf_0 : decode cX5_bitsOf 0 = .ok (.fload_n 0, 1) := by decide +kernel
theorem dX5_bitsOf_1 : decode cX5_bitsOf 1 = .ok (.fconst 0, 1) := by decide +kernel
theorem dX5_bitsOf_2 : decode cX5_bitsOf 2 = .ok (.fcmp .l, 1) := by decide +kernel
theorem dX5_bitsOf_3 : decode cX5_bitsOf 3 = .ok (.ifCond .ne 5, 3) := by decide +kernel
theorem dX5_bitsOf_6 : decode cX5_bitsOf 6 = .ok (.iconst 0, 1) := by decide +kernel
theorem dX5_bitsOf_7 : decode cX5_bitsOf 7 = .ok (.ireturn, 1) := by decide +kernel
theorem dX5_bitsOf_8 : decode cX5_bitsOf 8 = .ok (.bipush 127, 2) := by decide +kernel
theorem dX5_bitsOf_10 : decode cX5_bitsOf 10 = .ok (.istore_n 1, 1) := by decide +kernel
theorem dX5_bitsOf_11 : decode cX5_bitsOf 11 = .ok (.fload_n 0, 1) := by decide +kernel
theorem dX5_bitsOf_12 : decode cX5_bitsOf 12 = .ok (.fstore_n 2, 1) := by decide +kernel
theorem dX5_bitsOf_13 : decode cX5_bitsOf 13 = .ok (.fload_n 2, 1) := by decide +kernel
theorem dX5_bitsOf_14 : decode cX5_bitsOf 14 = .ok (.fconst 1, 1) := by decide +kernel
theorem dX5_bitsOf_15 : decode cX5_bitsOf 15 = .ok (.fcmp .g, 1) := by decide +kernel
theorem dX5_bitsOf_16 : decode cX5_bitsOf 16 = .ok (.ifCond .ge 13, 3) := by decide +kernel
theorem dX5_bitsOf_19 : decode cX5_bitsOf 19 = .ok (.fload_n 2, 1) := by decide +kernel
theorem dX5_bitsOf_20 : decode cX5_bitsOf 20 = .ok (.fconst 2, 1) := by decide +kernel
theorem dX5_bitsOf_21 : decode cX5_bitsOf 21 = .ok (.fmul, 1) := by decide +kernel
theorem dX5_bitsOf_22 : decode cX5_bitsOf 22 = .ok (.fstore_n 2, 1) := by decide +kernel
theorem dX5_bitsOf_23 : decode cX5_bitsOf 23 = .ok (.iinc 1 (-1), 3) := by decide +kernel
theorem dX5_bitsOf_26 : decode cX5_bitsOf 26 = .ok (.goto (-13), 3) := by decide +kernel
theorem dX5_bitsOf_29 : decode cX5_bitsOf 29 = .ok (.iload_n 1, 1) := by decide +kernel
theorem dX5_bitsOf_30 : decode cX5_bitsOf 30 = .ok (.ldc 115, 2) := by decide +kernel
theorem dX5_bitsOf_32 : decode cX5_bitsOf 32 = .ok (.imul, 1) := by decide +kernel
theorem dX5_bitsOf_33 : decode cX5_bitsOf 33 = .ok (.fload_n 2, 1) := by decide +kernel
theorem dX5_bitsOf_34 : decode cX5_bitsOf 34 = .ok (.fconst 1, 1) := by decide +kernel
theorem dX5_bitsOf_35 : decode cX5_bitsOf 35 = .ok (.fsub, 1) := by decide +kernel
theorem dX5_bitsOf_36 : decode cX5_bitsOf 36 = .ok (.ldc 116, 2) := by decide +kernel
theorem dX5_bitsOf_38 : decode cX5_bitsOf 38 = .ok (.fmul, 1) := by decide +kernel
theorem dX5_bitsOf_39 : decode cX5_bitsOf 39 = .ok (.f2i, 1) := by decide +kernel
theorem dX5_bitsOf_40 : decode cX5_bitsOf 40 = .ok (.iadd, 1) := by decide +kernel
theorem dX5_bitsOf_41 : decode cX5_bitsOf 41 = .ok (.ireturn, 1) := by decide +kernel
set_option maxRecDepth 20000 in
theorem ggX5_share_X5_many : GoodIn wsX5_share wsX5_many := goodIn_r _ [5, 6, 7, 8, 9, 4, 10, 11, 12, 13, 14, 15, 16, 17, 18, 19, 20, 21, 22, 23, 24, 25, 26, 27, 28, 29, 30, 31, 32, 33, 34, 35, 36, 37, 38, 39, 40, 46, 47, 48, 49, 50, 51, 52, 53, 54, 55, 56, 57, 58] (by decide +kernel) (by decide +kernel)
set_option maxRecDepth 20000 in
theorem gX5_share_X5_many : GoodIn wsX5_share (wsV RX5 117 RX5 yX5_many wsX5_many) := goodIn_app (goodIn_of _ (by decide +kernel)) ggX5_share_X5_many
set_option maxRecDepth 20000 in
theorem ggX5_share_X5_bitsOf : GoodIn wsX5_share wsX5_bitsOf := goodIn_r _ [43, 44, 45] (by decide +kernel) (by decide +kernel)
set_option maxRecDepth 20000 in
theorem gX5_share_X5_bitsOf : GoodIn wsX5_share (va_wsS RX5 120 yX5_bitsOf wsX5_bitsOf) := goodIn_app (goodIn_of _ (by decide +kernel)) ggX5_share_X5_bitsOf
theorem dX5_share_0 : decode cX5_share 0 = .ok (.aload_n 0, 1) := by decide +kernel
theorem dX5_share_1 : decode cX5_share 1 = .ok (.iconst 0, 1) := by decide +kernel
theorem dX5_share_2 : decode cX5_share 2 = .ok (.invokevirtual 117, 3) := by decide +kernel
theorem dX5_share_5 : decode cX5_share 5 = .ok (.istore_n 1, 1) := by decide +kernel
theorem dX5_share_6 : decode cX5_share 6 = .ok (.iload_n 1, 1) := by decide +kernel
theorem dX5_share_7 : decode cX5_share 7 = .ok (.ifCond .ne 8, 3) := by decide +kernel
theorem dX5_share_10 : decode cX5_share 10 = .ok (.bipush (-6), 2) := by decide +kernel
theorem dX5_share_12 : decode cX5_share 12 = .ok (.goto 17, 3) := by decide +kernel
theorem dX5_share_15 : decode cX5_share 15 = .ok (.iload_n 1, 1) := by decide +kernel
theorem dX5_share_16 : decode cX5_share 16 = .ok (.aload_n 0, 1) := by decide +kernel
theorem dX5_share_17 : decode cX5_share 17 = .ok (.iconst 3, 1) := by decide +kernel
theorem dX5_share_18 : decode cX5_share 18 = .ok (.invokevirtual 117, 3) := by decide +kernel
theorem dX5_share_21 : decode cX5_share 21 = .ok (.isub, 1) := by decide +kernel
theorem dX5_share_22 : decode cX5_share 22 = .ok (.i2f, 1) := by decide +kernel
theorem dX5_share_23 : decode cX5_share 23 = .ok (.iload_n 1, 1) := by decide +kernel
theorem dX5_share_24 : decode cX5_share 24 = .ok (.i2f, 1) := by decide +kernel
theorem dX5_share_25 : decode cX5_share 25 = .ok (.fdiv, 1) := by decide +kernel
theorem dX5_share_26 : decode cX5_share 26 = .ok (.invokestatic 120, 3) := by decide +kernel
theorem dX5_share_29 : decode cX5_share 29 = .ok (.ireturn, 1) := by decide +kernel
set_option maxRecDepth 20000 in
theorem ggX5_wouldRead_X5_writeFault : GoodIn wsX5_wouldRead wsX5_writeFault := goodIn_r _ [5, 6, 7, 8, 9, 4, 10, 11, 12, 13, 53, 54, 55, 56, 57, 58, 59, 60, 61, 62, 63, 64, 65] (by decide +kernel) (by decide +kernel)
set_option maxRecDepth 20000 in
theorem gX5_wouldRead_X5_writeFault : GoodIn wsX5_wouldRead (wsV RX5 79 RX5 yX5_writeFault wsX5_writeFault) := goodIn_app (goodIn_of _ (by decide +kernel)) ggX5_wouldRead_X5_writeFault
set_option maxRecDepth 20000 in
theorem ggX5_wouldRead_X5_isPlace : GoodIn wsX5_wouldRead wsX5_isPlace := goodIn_r _ [10, 6, 11, 12, 4, 13, 53, 54, 55, 56, 57, 58, 59, 60, 61, 62, 63, 64, 65] (by decide +kernel) (by decide +kernel)
set_option maxRecDepth 20000 in
theorem gX5_wouldRead_X5_isPlace : GoodIn wsX5_wouldRead (wsV RX5 55 RX5 yX5_isPlace wsX5_isPlace) := goodIn_app (goodIn_of _ (by decide +kernel)) ggX5_wouldRead_X5_isPlace
set_option maxRecDepth 20000 in
theorem ggX5_wouldRead_X5_putAside : GoodIn wsX5_wouldRead wsX5_putAside := goodIn_r _ [17, 18, 6, 53, 54, 55, 56, 57, 58, 59, 60, 61, 62, 63, 64, 65] (by decide +kernel) (by decide +kernel)
set_option maxRecDepth 20000 in
theorem gX5_wouldRead_X5_putAside : GoodIn wsX5_wouldRead (wsV RX5 124 RX5 yX5_putAside wsX5_putAside) := goodIn_app (goodIn_of _ (by decide +kernel)) ggX5_wouldRead_X5_putAside
set_option maxRecDepth 20000 in
theorem ggX5_wouldRead_X5_writes : GoodIn wsX5_wouldRead wsX5_writes := goodIn_r _ [22, 6, 23, 24, 4, 25, 26, 27, 28, 29, 30, 31, 32, 53, 54, 55, 56, 57, 58, 59, 60, 61, 62, 63, 64, 65] (by decide +kernel) (by decide +kernel)
set_option maxRecDepth 20000 in
theorem gX5_wouldRead_X5_writes : GoodIn wsX5_wouldRead (wsV RX5 82 RX5 yX5_writes wsX5_writes) := goodIn_app (goodIn_of _ (by decide +kernel)) ggX5_wouldRead_X5_writes
set_option maxRecDepth 20000 in
theorem ggX5_wouldRead_X5_readable : GoodIn wsX5_wouldRead wsX5_readable := goodIn_r _ [36, 6, 37, 38, 39, 4, 40, 41, 42, 43, 44, 30, 31, 32, 45, 46, 47, 48, 23, 24, 25, 53, 54, 55, 56, 57, 58, 59, 60, 61, 62, 63, 64, 65] (by decide +kernel) (by decide +kernel)
set_option maxRecDepth 20000 in
theorem gX5_wouldRead_X5_readable : GoodIn wsX5_wouldRead (wsV RX5 66 RX5 yX5_readable wsX5_readable) := goodIn_app (goodIn_of _ (by decide +kernel)) ggX5_wouldRead_X5_readable
set_option maxRecDepth 20000 in
theorem ggX5_wouldRead_X5_putBack : GoodIn wsX5_wouldRead wsX5_putBack := goodIn_r _ [52, 6, 18, 53, 54, 55, 56, 57, 58, 59, 60, 61, 62, 63, 64, 65] (by decide +kernel) (by decide +kernel)
set_option maxRecDepth 20000 in
theorem gX5_wouldRead_X5_putBack : GoodIn wsX5_wouldRead (wsV RX5 127 RX5 yX5_putBack wsX5_putBack) := goodIn_app (goodIn_of _ (by decide +kernel)) ggX5_wouldRead_X5_putBack
theorem dX5_wouldRead_0 : decode cX5_wouldRead 0 = .ok (.aload_n 0, 1) := by decide +kernel
theorem dX5_wouldRead_1 : decode cX5_wouldRead 1 = .ok (.iload_n 2, 1) := by decide +kernel
theorem dX5_wouldRead_2 : decode cX5_wouldRead 2 = .ok (.iload_n 3, 1) := by decide +kernel
theorem dX5_wouldRead_3 : decode cX5_wouldRead 3 = .ok (.invokevirtual 79, 3) := by decide +kernel
theorem dX5_wouldRead_6 : decode cX5_wouldRead 6 = .ok (.istore 4, 2) := by decide +kernel
theorem dX5_wouldRead_8 : decode cX5_wouldRead 8 = .ok (.iload 4, 2) := by decide +kernel
theorem dX5_wouldRead_10 : decode cX5_wouldRead 10 = .ok (.ifCond .ge 6, 3) := by decide +kernel
theorem dX5_wouldRead_13 : decode cX5_wouldRead 13 = .ok (.iload 4, 2) := by decide +kernel
theorem dX5_wouldRead_15 : decode cX5_wouldRead 15 = .ok (.ireturn, 1) := by decide +kernel
theorem dX5_wouldRead_16 : decode cX5_wouldRead 16 = .ok (.aload_n 0, 1) := by decide +kernel
theorem dX5_wouldRead_17 : decode cX5_wouldRead 17 = .ok (.iload_n 1, 1) := by decide +kernel
theorem dX5_wouldRead_18 : decode cX5_wouldRead 18 = .ok (.invokevirtual 55, 3) := by decide +kernel
theorem dX5_wouldRead_21 : decode cX5_wouldRead 21 = .ok (.ifCond .ne 5, 3) := by decide +kernel
theorem dX5_wouldRead_24 : decode cX5_wouldRead 24 = .ok (.iconst (-1), 1) := by decide +kernel
theorem dX5_wouldRead_25 : decode cX5_wouldRead 25 = .ok (.ireturn, 1) := by decide +kernel
theorem dX5_wouldRead_26 : decode cX5_wouldRead 26 = .ok (.aload_n 0, 1) := by decide +kernel
theorem dX5_wouldRead_27 : decode cX5_wouldRead 27 = .ok (.invokevirtual 124, 3) := by decide +kernel
theorem dX5_wouldRead_30 : decode cX5_wouldRead 30 = .ok (.aload_n 0, 1) := by decide +kernel
theorem dX5_wouldRead_31 : decode cX5_wouldRead 31 = .ok (.iload_n 2, 1) := by decide +kernel
theorem dX5_wouldRead_32 : decode cX5_wouldRead 32 = .ok (.iload_n 3, 1) := by decide +kernel
theorem dX5_wouldRead_33 : decode cX5_wouldRead 33 = .ok (.invokevirtual 82, 3) := by decide +kernel
theorem dX5_wouldRead_36 : decode cX5_wouldRead 36 = .ok (.istore 5, 2) := by decide +kernel
theorem dX5_wouldRead_38 : decode cX5_wouldRead 38 = .ok (.aload_n 0, 1) := by decide +kernel
theorem dX5_wouldRead_39 : decode cX5_wouldRead 39 = .ok (.iload_n 1, 1) := by decide +kernel
theorem dX5_wouldRead_40 : decode cX5_wouldRead 40 = .ok (.invokevirtual 66, 3) := by decide +kernel
theorem dX5_wouldRead_43 : decode cX5_wouldRead 43 = .ok (.istore 6, 2) := by decide +kernel
theorem dX5_wouldRead_45 : decode cX5_wouldRead 45 = .ok (.aload_n 0, 1) := by decide +kernel
theorem dX5_wouldRead_46 : decode cX5_wouldRead 46 = .ok (.invokevirtual 127, 3) := by decide +kernel
theorem dX5_wouldRead_49 : decode cX5_wouldRead 49 = .ok (.iload 6, 2) := by decide +kernel
theorem dX5_wouldRead_51 : decode cX5_wouldRead 51 = .ok (.ireturn, 1) := by decide +kernel
set_option maxRecDepth 20000 in
theorem ggX5_losing_X5_writeFault : GoodIn wsX5_losing wsX5_writeFault := goodIn_r _ [7, 1, 8, 9, 10, 6, 11, 12, 13, 14, 71, 72, 73, 74, 75, 76, 77, 78, 79, 80, 81, 82, 83] (by decide +kernel) (by decide +kernel)
set_option maxRecDepth 20000 in
theorem gX5_losing_X5_writeFault : GoodIn wsX5_losing (wsV RX5 79 RX5 yX5_writeFault wsX5_writeFault) := goodIn_app (goodIn_of _ (by decide +kernel)) ggX5_losing_X5_writeFault
set_option maxRecDepth 20000 in
theorem ggX5_losing_X5_places : GoodIn wsX5_losing wsX5_places := goodIn_r _ [18, 19, 1, 12, 13, 6, 14, 20, 21, 22, 23, 24, 25, 26, 27, 28, 29, 30, 31, 32, 33, 34, 35, 36, 37, 38, 39, 40, 41, 42, 43, 44, 45, 46, 47, 48, 49, 50, 51, 52, 53, 71, 72, 73, 74, 75, 76, 77, 78, 79, 80, 81, 82, 83] (by decide +kernel) (by decide +kernel)
set_option maxRecDepth 20000 in
theorem gX5_losing_X5_places : GoodIn wsX5_losing (wsV RX5 130 RX5 yX5_places wsX5_places) := goodIn_app (goodIn_of _ (by decide +kernel)) ggX5_losing_X5_places
set_option maxRecDepth 20000 in
theorem ggX5_losing_X5_putAside : GoodIn wsX5_losing wsX5_putAside := goodIn_r _ [57, 58, 1, 71, 72, 73, 74, 75, 76, 77, 78, 79, 80, 81, 82, 83] (by decide +kernel) (by decide +kernel)
set_option maxRecDepth 20000 in
theorem gX5_losing_X5_putAside : GoodIn wsX5_losing (wsV RX5 124 RX5 yX5_putAside wsX5_putAside) := goodIn_app (goodIn_of _ (by decide +kernel)) ggX5_losing_X5_putAside
set_option maxRecDepth 20000 in
theorem ggX5_losing_X5_writes : GoodIn wsX5_losing wsX5_writes := goodIn_r _ [62, 1, 39, 40, 6, 41, 63, 64, 65, 66, 32, 33, 34, 71, 72, 73, 74, 75, 76, 77, 78, 79, 80, 81, 82, 83] (by decide +kernel) (by decide +kernel)
set_option maxRecDepth 20000 in
theorem gX5_losing_X5_writes : GoodIn wsX5_losing (wsV RX5 82 RX5 yX5_writes wsX5_writes) := goodIn_app (goodIn_of _ (by decide +kernel)) ggX5_losing_X5_writes
set_option maxRecDepth 20000 in
theorem ggX5_losing_X5_putBack : GoodIn wsX5_losing wsX5_putBack := goodIn_r _ [70, 1, 58, 71, 72, 73, 74, 75, 76, 77, 78, 79, 80, 81, 82, 83] (by decide +kernel) (by decide +kernel)
set_option maxRecDepth 20000 in
theorem gX5_losing_X5_putBack : GoodIn wsX5_losing (wsV RX5 127 RX5 yX5_putBack wsX5_putBack) := goodIn_app (goodIn_of _ (by decide +kernel)) ggX5_losing_X5_putBack
theorem dX5_losing_0 : decode cX5_losing 0 = .ok (.aload_n 0, 1) := by decide +kernel
theorem dX5_losing_1 : decode cX5_losing 1 = .ok (.iload_n 1, 1) := by decide +kernel
theorem dX5_losing_2 : decode cX5_losing 2 = .ok (.iload_n 2, 1) := by decide +kernel
theorem dX5_losing_3 : decode cX5_losing 3 = .ok (.invokevirtual 79, 3) := by decide +kernel
theorem dX5_losing_6 : decode cX5_losing 6 = .ok (.istore_n 3, 1) := by decide +kernel
theorem dX5_losing_7 : decode cX5_losing 7 = .ok (.iload_n 3, 1) := by decide +kernel
theorem dX5_losing_8 : decode cX5_losing 8 = .ok (.ifCond .ge 5, 3) := by decide +kernel
theorem dX5_losing_11 : decode cX5_losing 11 = .ok (.iload_n 3, 1) := by decide +kernel
theorem dX5_losing_12 : decode cX5_losing 12 = .ok (.ireturn, 1) := by decide +kernel
theorem dX5_losing_13 : decode cX5_losing 13 = .ok (.aload_n 0, 1) := by decide +kernel
theorem dX5_losing_14 : decode cX5_losing 14 = .ok (.iconst 3, 1) := by decide +kernel
theorem dX5_losing_15 : decode cX5_losing 15 = .ok (.invokevirtual 130, 3) := by decide +kernel
theorem dX5_losing_18 : decode cX5_losing 18 = .ok (.lstore 4, 2) := by decide +kernel
theorem dX5_losing_20 : decode cX5_losing 20 = .ok (.iconst 0, 1) := by decide +kernel
theorem dX5_losing_21 : decode cX5_losing 21 = .ok (.istore 6, 2) := by decide +kernel
theorem dX5_losing_23 : decode cX5_losing 23 = .ok (.aload_n 0, 1) := by decide +kernel
theorem dX5_losing_24 : decode cX5_losing 24 = .ok (.invokevirtual 124, 3) := by decide +kernel
theorem dX5_losing_27 : decode cX5_losing 27 = .ok (.iconst 1, 1) := by decide +kernel
theorem dX5_losing_28 : decode cX5_losing 28 = .ok (.istore 7, 2) := by decide +kernel
theorem dX5_losing_30 : decode cX5_losing 30 = .ok (.iload 7, 2) := by decide +kernel
theorem dX5_losing_32 : decode cX5_losing 32 = .ok (.iconst 4, 1) := by decide +kernel
theorem dX5_losing_33 : decode cX5_losing 33 = .ok (.if_icmp .gt 67, 3) := by decide +kernel
theorem dX5_losing_36 : decode cX5_losing 36 = .ok (.aload_n 0, 1) := by decide +kernel
theorem dX5_losing_37 : decode cX5_losing 37 = .ok (.getfield 7, 3) := by decide +kernel
theorem dX5_losing_40 : decode cX5_losing 40 = .ok (.iconst 1, 1) := by decide +kernel
theorem dX5_losing_41 : decode cX5_losing 41 = .ok (.iload 7, 2) := by decide +kernel
theorem dX5_losing_43 : decode cX5_losing 43 = .ok (.iastore, 1) := by decide +kernel
theorem dX5_losing_44 : decode cX5_losing 44 = .ok (.aload_n 0, 1) := by decide +kernel
theorem dX5_losing_45 : decode cX5_losing 45 = .ok (.getfield 7, 3) := by decide +kernel
theorem dX5_losing_48 : decode cX5_losing 48 = .ok (.iconst 2, 1) := by decide +kernel
theorem dX5_losing_49 : decode cX5_losing 49 = .ok (.iload 7, 2) := by decide +kernel
theorem dX5_losing_51 : decode cX5_losing 51 = .ok (.iastore, 1) := by decide +kernel
theorem dX5_losing_52 : decode cX5_losing 52 = .ok (.aload_n 0, 1) := by decide +kernel
theorem dX5_losing_53 : decode cX5_losing 53 = .ok (.iload_n 1, 1) := by decide +kernel
theorem dX5_losing_54 : decode cX5_losing 54 = .ok (.iload_n 2, 1) := by decide +kernel
theorem dX5_losing_55 : decode cX5_losing 55 = .ok (.invokevirtual 82, 3) := by decide +kernel
theorem dX5_losing_58 : decode cX5_losing 58 = .ok (.istore 8, 2) := by decide +kernel
theorem dX5_losing_60 : decode cX5_losing 60 = .ok (.iload 6, 2) := by decide +kernel
theorem dX5_losing_62 : decode cX5_losing 62 = .ok (.aload_n 0, 1) := by decide +kernel
theorem dX5_losing_63 : decode cX5_losing 63 = .ok (.iconst 3, 1) := by decide +kernel
theorem dX5_losing_64 : decode cX5_losing 64 = .ok (.invokevirtual 130, 3) := by decide +kernel
theorem dX5_losing_67 : decode cX5_losing 67 = .ok (.lload 4, 2) := by decide +kernel
theorem dX5_losing_69 : decode cX5_losing 69 = .ok (.ldc2_w 134, 3) := by decide +kernel
theorem dX5_losing_72 : decode cX5_losing 72 = .ok (.lxor, 1) := by decide +kernel
theorem dX5_losing_73 : decode cX5_losing 73 = .ok (.land, 1) := by decide +kernel
theorem dX5_losing_74 : decode cX5_losing 74 = .ok (.lconst 0, 1) := by decide +kernel
theorem dX5_losing_75 : decode cX5_losing 75 = .ok (.lcmp, 1) := by decide +kernel
theorem dX5_losing_76 : decode cX5_losing 76 = .ok (.ifCond .eq 10, 3) := by decide +kernel
theorem dX5_losing_79 : decode cX5_losing 79 = .ok (.iconst 1, 1) := by decide +kernel
theorem dX5_losing_80 : decode cX5_losing 80 = .ok (.iload 7, 2) := by decide +kernel
theorem dX5_losing_82 : decode cX5_losing 82 = .ok (.ishl, 1) := by decide +kernel
theorem dX5_losing_83 : decode cX5_losing 83 = .ok (.goto 4, 3) := by decide +kernel
theorem dX5_losing_86 : decode cX5_losing 86 = .ok (.iconst 0, 1) := by decide +kernel
theorem dX5_losing_87 : decode cX5_losing 87 = .ok (.ior, 1) := by decide +kernel
theorem dX5_losing_88 : decode cX5_losing 88 = .ok (.istore 6, 2) := by decide +kernel
theorem dX5_losing_90 : decode cX5_losing 90 = .ok (.aload_n 0, 1) := by decide +kernel
theorem dX5_losing_91 : decode cX5_losing 91 = .ok (.invokevirtual 127, 3) := by decide +kernel
theorem dX5_losing_94 : decode cX5_losing 94 = .ok (.iinc 7 1, 3) := by decide +kernel
theorem dX5_losing_97 : decode cX5_losing 97 = .ok (.goto (-67), 3) := by decide +kernel
theorem dX5_losing_100 : decode cX5_losing 100 = .ok (.iload 6, 2) := by decide +kernel
theorem dX5_losing_102 : decode cX5_losing 102 = .ok (.ireturn, 1) := by decide +kernel
set_option maxRecDepth 20000 in
theorem ggX5_put_X5_in : GoodIn wsX5_put wsX5_in := goodIn_r _ [7] (by decide +kernel) (by decide +kernel)
set_option maxRecDepth 20000 in
theorem gX5_put_X5_in : GoodIn wsX5_put (va_wsS RX5 29 yX5_in wsX5_in) := goodIn_app (goodIn_of _ (by decide +kernel)) ggX5_put_X5_in
