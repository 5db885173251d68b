theorem dX5_put_0 : decode cX5_put 0 = .ok (.iconst 0, 1) := by decide +kernel
theorem dX5_put_1 : decode cX5_put 1 = .ok (.istore_n 3, 1) := by decide +kernel
theorem dX5_put_2 : decode cX5_put 2 = .ok (.iconst 0, 1) := by decide +kernel
theorem dX5_put_3 : decode cX5_put 3 = .ok (.istore 4, 2) := by decide +kernel
theorem dX5_put_5 : decode cX5_put 5 = .ok (.iconst 0, 1) := by decide +kernel
theorem dX5_put_6 : decode cX5_put 6 = .ok (.istore 5, 2) := by decide +kernel
theorem dX5_put_8 : decode cX5_put 8 = .ok (.iload 5, 2) := by decide +kernel
theorem dX5_put_10 : decode cX5_put 10 = .ok (.bipush 8, 2) := by decide +kernel
theorem dX5_put_12 : decode cX5_put 12 = .ok (.if_icmp .ge 89, 3) := by decide +kernel
theorem dX5_put_15 : decode cX5_put 15 = .ok (.lload_n 1, 1) := by decide +kernel
theorem dX5_put_16 : decode cX5_put 16 = .ok (.bipush 8, 2) := by decide +kernel
theorem dX5_put_18 : decode cX5_put 18 = .ok (.iload 5, 2) := by decide +kernel
theorem dX5_put_20 : decode cX5_put 20 = .ok (.imul, 1) := by decide +kernel
theorem dX5_put_21 : decode cX5_put 21 = .ok (.lushr, 1) := by decide +kernel
theorem dX5_put_22 : decode cX5_put 22 = .ok (.ldc2_w 136, 3) := by decide +kernel
theorem dX5_put_25 : decode cX5_put 25 = .ok (.land, 1) := by decide +kernel
theorem dX5_put_26 : decode cX5_put 26 = .ok (.l2i, 1) := by decide +kernel
theorem dX5_put_27 : decode cX5_put 27 = .ok (.istore 6, 2) := by decide +kernel
theorem dX5_put_29 : decode cX5_put 29 = .ok (.iload 5, 2) := by decide +kernel
theorem dX5_put_31 : decode cX5_put 31 = .ok (.ifCond .le 19, 3) := by decide +kernel
theorem dX5_put_34 : decode cX5_put 34 = .ok (.lload_n 1, 1) := by decide +kernel
theorem dX5_put_35 : decode cX5_put 35 = .ok (.bipush 8, 2) := by decide +kernel
theorem dX5_put_37 : decode cX5_put 37 = .ok (.iload 5, 2) := by decide +kernel
theorem dX5_put_39 : decode cX5_put 39 = .ok (.imul, 1) := by decide +kernel
theorem dX5_put_40 : decode cX5_put 40 = .ok (.lushr, 1) := by decide +kernel
theorem dX5_put_41 : decode cX5_put 41 = .ok (.lconst 0, 1) := by decide +kernel
theorem dX5_put_42 : decode cX5_put 42 = .ok (.lcmp, 1) := by decide +kernel
theorem dX5_put_43 : decode cX5_put 43 = .ok (.ifCond .ne 7, 3) := by decide +kernel
theorem dX5_put_46 : decode cX5_put 46 = .ok (.iconst 1, 1) := by decide +kernel
theorem dX5_put_47 : decode cX5_put 47 = .ok (.goto 4, 3) := by decide +kernel
theorem dX5_put_50 : decode cX5_put 50 = .ok (.iconst 0, 1) := by decide +kernel
theorem dX5_put_51 : decode cX5_put 51 = .ok (.istore 7, 2) := by decide +kernel
theorem dX5_put_53 : decode cX5_put 53 = .ok (.iload 4, 2) := by decide +kernel
theorem dX5_put_55 : decode cX5_put 55 = .ok (.ifCond .ne 20, 3) := by decide +kernel
theorem dX5_put_58 : decode cX5_put 58 = .ok (.iload 7, 2) := by decide +kernel
theorem dX5_put_60 : decode cX5_put 60 = .ok (.ifCond .ne 19, 3) := by decide +kernel
theorem dX5_put_63 : decode cX5_put 63 = .ok (.iload 6, 2) := by decide +kernel
theorem dX5_put_65 : decode cX5_put 65 = .ok (.bipush 33, 2) := by decide +kernel
theorem dX5_put_67 : decode cX5_put 67 = .ok (.bipush 126, 2) := by decide +kernel
theorem dX5_put_69 : decode cX5_put 69 = .ok (.invokestatic 29, 3) := by decide +kernel
theorem dX5_put_72 : decode cX5_put 72 = .ok (.ifCond .ne 7, 3) := by decide +kernel
theorem dX5_put_75 : decode cX5_put 75 = .ok (.iconst 1, 1) := by decide +kernel
theorem dX5_put_76 : decode cX5_put 76 = .ok (.goto 4, 3) := by decide +kernel
theorem dX5_put_79 : decode cX5_put 79 = .ok (.iconst 0, 1) := by decide +kernel
theorem dX5_put_80 : decode cX5_put 80 = .ok (.istore 4, 2) := by decide +kernel
theorem dX5_put_82 : decode cX5_put 82 = .ok (.iload_n 3, 1) := by decide +kernel
theorem dX5_put_83 : decode cX5_put 83 = .ok (.iload 7, 2) := by decide +kernel
theorem dX5_put_85 : decode cX5_put 85 = .ok (.ifCond .eq 7, 3) := by decide +kernel
theorem dX5_put_88 : decode cX5_put 88 = .ok (.iconst 0, 1) := by decide +kernel
theorem dX5_put_89 : decode cX5_put 89 = .ok (.goto 4, 3) := by decide +kernel
theorem dX5_put_92 : decode cX5_put 92 = .ok (.iconst 1, 1) := by decide +kernel
theorem dX5_put_93 : decode cX5_put 93 = .ok (.iadd, 1) := by decide +kernel
theorem dX5_put_94 : decode cX5_put 94 = .ok (.istore_n 3, 1) := by decide +kernel
theorem dX5_put_95 : decode cX5_put 95 = .ok (.iinc 5 1, 3) := by decide +kernel
theorem dX5_put_98 : decode cX5_put 98 = .ok (.goto (-90), 3) := by decide +kernel
theorem dX5_put_101 : decode cX5_put 101 = .ok (.iload 4, 2) := by decide +kernel
theorem dX5_put_103 : decode cX5_put 103 = .ok (.ifCond .eq 6, 3) := by decide +kernel
theorem dX5_put_106 : decode cX5_put 106 = .ok (.bipush (-2), 2) := by decide +kernel
theorem dX5_put_108 : decode cX5_put 108 = .ok (.ireturn, 1) := by decide +kernel
theorem dX5_put_109 : decode cX5_put 109 = .ok (.aload_n 0, 1) := by decide +kernel
theorem dX5_put_110 : decode cX5_put 110 = .ok (.getfield 112, 3) := by decide +kernel
theorem dX5_put_113 : decode cX5_put 113 = .ok (.iload_n 3, 1) := by decide +kernel
theorem dX5_put_114 : decode cX5_put 114 = .ok (.iadd, 1) := by decide +kernel
theorem dX5_put_115 : decode cX5_put 115 = .ok (.bipush 80, 2) := by decide +kernel
theorem dX5_put_117 : decode cX5_put 117 = .ok (.if_icmp .le 6, 3) := by decide +kernel
theorem dX5_put_120 : decode cX5_put 120 = .ok (.bipush (-4), 2) := by decide +kernel
theorem dX5_put_122 : decode cX5_put 122 = .ok (.ireturn, 1) := by decide +kernel
theorem dX5_put_123 : decode cX5_put 123 = .ok (.iconst 0, 1) := by decide +kernel
theorem dX5_put_124 : decode cX5_put 124 = .ok (.istore 5, 2) := by decide +kernel
theorem dX5_put_126 : decode cX5_put 126 = .ok (.iload 5, 2) := by decide +kernel
theorem dX5_put_128 : decode cX5_put 128 = .ok (.iload_n 3, 1) := by decide +kernel
theorem dX5_put_129 : decode cX5_put 129 = .ok (.if_icmp .ge 37, 3) := by decide +kernel
theorem dX5_put_132 : decode cX5_put 132 = .ok (.aload_n 0, 1) := by decide +kernel
theorem dX5_put_133 : decode cX5_put 133 = .ok (.getfield 26, 3) := by decide +kernel
theorem dX5_put_136 : decode cX5_put 136 = .ok (.aload_n 0, 1) := by decide +kernel
theorem dX5_put_137 : decode cX5_put 137 = .ok (.getfield 112, 3) := by decide +kernel
theorem dX5_put_140 : decode cX5_put 140 = .ok (.iload_n 3, 1) := by decide +kernel
theorem dX5_put_141 : decode cX5_put 141 = .ok (.iadd, 1) := by decide +kernel
theorem dX5_put_142 : decode cX5_put 142 = .ok (.iconst 1, 1) := by decide +kernel
theorem dX5_put_143 : decode cX5_put 143 = .ok (.isub, 1) := by decide +kernel
theorem dX5_put_144 : decode cX5_put 144 = .ok (.iload 5, 2) := by decide +kernel
theorem dX5_put_146 : decode cX5_put 146 = .ok (.isub, 1) := by decide +kernel
theorem dX5_put_147 : decode cX5_put 147 = .ok (.lload_n 1, 1) := by decide +kernel
theorem dX5_put_148 : decode cX5_put 148 = .ok (.bipush 8, 2) := by decide +kernel
theorem dX5_put_150 : decode cX5_put 150 = .ok (.iload 5, 2) := by decide +kernel
theorem dX5_put_152 : decode cX5_put 152 = .ok (.imul, 1) := by decide +kernel
theorem dX5_put_153 : decode cX5_put 153 = .ok (.lushr, 1) := by decide +kernel
theorem dX5_put_154 : decode cX5_put 154 = .ok (.ldc2_w 136, 3) := by decide +kernel
theorem dX5_put_157 : decode cX5_put 157 = .ok (.land, 1) := by decide +kernel
theorem dX5_put_158 : decode cX5_put 158 = .ok (.l2i, 1) := by decide +kernel
theorem dX5_put_159 : decode cX5_put 159 = .ok (.iastore, 1) := by decide +kernel
theorem dX5_put_160 : decode cX5_put 160 = .ok (.iinc 5 1, 3) := by decide +kernel
theorem dX5_put_163 : decode cX5_put 163 = .ok (.goto (-37), 3) := by decide +kernel
theorem dX5_put_166 : decode cX5_put 166 = .ok (.aload_n 0, 1) := by decide +kernel
theorem dX5_put_167 : decode cX5_put 167 = .ok (.dup, 1) := by decide +kernel
theorem dX5_put_168 : decode cX5_put 168 = .ok (.getfield 112, 3) := by decide +kernel
theorem dX5_put_171 : decode cX5_put 171 = .ok (.iload_n 3, 1) := by decide +kernel
theorem dX5_put_172 : decode cX5_put 172 = .ok (.iadd, 1) := by decide +kernel
theorem dX5_put_173 : decode cX5_put 173 = .ok (.putfield 112, 3) := by decide +kernel
theorem dX5_put_176 : decode cX5_put 176 = .ok (.aload_n 0, 1) := by decide +kernel
theorem dX5_put_177 : decode cX5_put 177 = .ok (.getfield 112, 3) := by decide +kernel
theorem dX5_put_180 : decode cX5_put 180 = .ok (.ireturn, 1) := by decide +kernel
theorem dX5_wipe_0 : decode cX5_wipe 0 = .ok (.aload_n 0, 1) := by decide +kernel
theorem dX5_wipe_1 : decode cX5_wipe 1 = .ok (.getfield 112, 3) := by decide +kernel
theorem dX5_wipe_4 : decode cX5_wipe 4 = .ok (.istore_n 1, 1) := by decide +kernel
theorem dX5_wipe_5 : decode cX5_wipe 5 = .ok (.aload_n 0, 1) := by decide +kernel
theorem dX5_wipe_6 : decode cX5_wipe 6 = .ok (.iconst 0, 1) := by decide +kernel
theorem dX5_wipe_7 : decode cX5_wipe 7 = .ok (.putfield 112, 3) := by decide +kernel
theorem dX5_wipe_10 : decode cX5_wipe 10 = .ok (.iload_n 1, 1) := by decide +kernel
theorem dX5_wipe_11 : decode cX5_wipe 11 = .ok (.ireturn, 1) := by decide +kernel
set_option maxRecDepth 20000 in
theorem ggX5_sign_X5_in : GoodIn wsX5_sign wsX5_in := goodIn_r _ [8] (by decide +kernel) (by decide +kernel)
set_option maxRecDepth 20000 in
theorem gX5_sign_X5_in : GoodIn wsX5_sign (va_wsS RX5 29 yX5_in wsX5_in) := goodIn_app (goodIn_of _ (by decide +kernel)) ggX5_sign_X5_in
theorem dX5_sign_0 : decode cX5_sign 0 = .ok (.aload_n 0, 1) := by decide +kernel
theorem dX5_sign_1 : decode cX5_sign 1 = .ok (.getfield 138, 3) := by decide +kernel
theorem dX5_sign_4 : decode cX5_sign 4 = .ok (.aload_n 0, 1) := by decide +kernel
theorem dX5_sign_5 : decode cX5_sign 5 = .ok (.getfield 112, 3) := by decide +kernel
theorem dX5_sign_8 : decode cX5_sign 8 = .ok (.if_icmp .ge 15, 3) := by decide +kernel
theorem dX5_sign_11 : decode cX5_sign 11 = .ok (.aload_n 0, 1) := by decide +kernel
theorem dX5_sign_12 : decode cX5_sign 12 = .ok (.getfield 26, 3) := by decide +kernel
theorem dX5_sign_15 : decode cX5_sign 15 = .ok (.aload_n 0, 1) := by decide +kernel
theorem dX5_sign_16 : decode cX5_sign 16 = .ok (.getfield 138, 3) := by decide +kernel
theorem dX5_sign_19 : decode cX5_sign 19 = .ok (.iaload, 1) := by decide +kernel
theorem dX5_sign_20 : decode cX5_sign 20 = .ok (.goto 4, 3) := by decide +kernel
theorem dX5_sign_23 : decode cX5_sign 23 = .ok (.iconst 0, 1) := by decide +kernel
theorem dX5_sign_24 : decode cX5_sign 24 = .ok (.istore_n 3, 1) := by decide +kernel
theorem dX5_sign_25 : decode cX5_sign 25 = .ok (.aload_n 0, 1) := by decide +kernel
theorem dX5_sign_26 : decode cX5_sign 26 = .ok (.aload_n 0, 1) := by decide +kernel
theorem dX5_sign_27 : decode cX5_sign 27 = .ok (.getfield 141, 3) := by decide +kernel
theorem dX5_sign_30 : decode cX5_sign 30 = .ok (.ifCond .ne 12, 3) := by decide +kernel
theorem dX5_sign_33 : decode cX5_sign 33 = .ok (.iload_n 3, 1) := by decide +kernel
theorem dX5_sign_34 : decode cX5_sign 34 = .ok (.iload_n 1, 1) := by decide +kernel
theorem dX5_sign_35 : decode cX5_sign 35 = .ok (.iload_n 2, 1) := by decide +kernel
theorem dX5_sign_36 : decode cX5_sign 36 = .ok (.invokestatic 29, 3) := by decide +kernel
theorem dX5_sign_39 : decode cX5_sign 39 = .ok (.ifCond .ne 7, 3) := by decide +kernel
theorem dX5_sign_42 : decode cX5_sign 42 = .ok (.iconst 1, 1) := by decide +kernel
theorem dX5_sign_43 : decode cX5_sign 43 = .ok (.goto 4, 3) := by decide +kernel
theorem dX5_sign_46 : decode cX5_sign 46 = .ok (.iconst 0, 1) := by decide +kernel
theorem dX5_sign_47 : decode cX5_sign 47 = .ok (.putfield 141, 3) := by decide +kernel
theorem dX5_sign_50 : decode cX5_sign 50 = .ok (.aload_n 0, 1) := by decide +kernel
theorem dX5_sign_51 : decode cX5_sign 51 = .ok (.dup, 1) := by decide +kernel
theorem dX5_sign_52 : decode cX5_sign 52 = .ok (.getfield 138, 3) := by decide +kernel
theorem dX5_sign_55 : decode cX5_sign 55 = .ok (.aload_n 0, 1) := by decide +kernel
theorem dX5_sign_56 : decode cX5_sign 56 = .ok (.getfield 141, 3) := by decide +kernel
theorem dX5_sign_59 : decode cX5_sign 59 = .ok (.ifCond .eq 7, 3) := by decide +kernel
theorem dX5_sign_62 : decode cX5_sign 62 = .ok (.iconst 0, 1) := by decide +kernel
theorem dX5_sign_63 : decode cX5_sign 63 = .ok (.goto 4, 3) := by decide +kernel
theorem dX5_sign_66 : decode cX5_sign 66 = .ok (.iconst 1, 1) := by decide +kernel
theorem dX5_sign_67 : decode cX5_sign 67 = .ok (.iadd, 1) := by decide +kernel
theorem dX5_sign_68 : decode cX5_sign 68 = .ok (.putfield 138, 3) := by decide +kernel
theorem dX5_sign_71 : decode cX5_sign 71 = .ok (.iload_n 3, 1) := by decide +kernel
theorem dX5_sign_72 : decode cX5_sign 72 = .ok (.ireturn, 1) := by decide +kernel
set_option maxRecDepth 20000 in
theorem ggX5_number_X5_sign : GoodIn wsX5_number wsX5_sign := goodIn_r _ [9, 2, 3, 4, 1, 10, 11, 8, 12, 13, 14, 15, 16, 17, 18, 19, 20, 21, 22, 23, 24, 25] (by decide +kernel) (by decide +kernel)
set_option maxRecDepth 20000 in
theorem gX5_number_X5_sign : GoodIn wsX5_number (wsV RX5 145 RX5 yX5_sign wsX5_sign) := goodIn_app (goodIn_of _ (by decide +kernel)) ggX5_number_X5_sign
set_option maxRecDepth 20000 in
theorem ggX5_number_X5_in : GoodIn wsX5_number wsX5_in := goodIn_r _ [12] (by decide +kernel) (by decide +kernel)
set_option maxRecDepth 20000 in
theorem gX5_number_X5_in : GoodIn wsX5_number (va_wsS RX5 29 yX5_in wsX5_in) := goodIn_app (goodIn_of _ (by decide +kernel)) ggX5_number_X5_in
theorem dX5_number_0 : decode cX5_number 0 = .ok (.aload_n 0, 1) := by decide +kernel
theorem dX5_number_1 : decode cX5_number 1 = .ok (.bipush 48, 2) := by decide +kernel
theorem dX5_number_3 : decode cX5_number 3 = .ok (.bipush 57, 2) := by decide +kernel
theorem dX5_number_5 : decode cX5_number 5 = .ok (.invokevirtual 145, 3) := by decide +kernel
theorem dX5_number_8 : decode cX5_number 8 = .ok (.bipush 48, 2) := by decide +kernel
theorem dX5_number_10 : decode cX5_number 10 = .ok (.isub, 1) := by decide +kernel
theorem dX5_number_11 : decode cX5_number 11 = .ok (.istore_n 1, 1) := by decide +kernel
theorem dX5_number_12 : decode cX5_number 12 = .ok (.iconst 1, 1) := by decide +kernel
theorem dX5_number_13 : decode cX5_number 13 = .ok (.istore_n 2, 1) := by decide +kernel
theorem dX5_number_14 : decode cX5_number 14 = .ok (.iload_n 2, 1) := by decide +kernel
theorem dX5_number_15 : decode cX5_number 15 = .ok (.iconst 4, 1) := by decide +kernel
theorem dX5_number_16 : decode cX5_number 16 = .ok (.if_icmp .ge 67, 3) := by decide +kernel
theorem dX5_number_19 : decode cX5_number 19 = .ok (.iload_n 1, 1) := by decide +kernel
theorem dX5_number_20 : decode cX5_number 20 = .ok (.ifCond .le 63, 3) := by decide +kernel
theorem dX5_number_23 : decode cX5_number 23 = .ok (.aload_n 0, 1) := by decide +kernel
theorem dX5_number_24 : decode cX5_number 24 = .ok (.getfield 141, 3) := by decide +kernel
theorem dX5_number_27 : decode cX5_number 27 = .ok (.ifCond .ne 56, 3) := by decide +kernel
theorem dX5_number_30 : decode cX5_number 30 = .ok (.aload_n 0, 1) := by decide +kernel
theorem dX5_number_31 : decode cX5_number 31 = .ok (.getfield 138, 3) := by decide +kernel
theorem dX5_number_34 : decode cX5_number 34 = .ok (.aload_n 0, 1) := by decide +kernel
theorem dX5_number_35 : decode cX5_number 35 = .ok (.getfield 112, 3) := by decide +kernel
theorem dX5_number_38 : decode cX5_number 38 = .ok (.if_icmp .ge 45, 3) := by decide +kernel
theorem dX5_number_41 : decode cX5_number 41 = .ok (.aload_n 0, 1) := by decide +kernel
theorem dX5_number_42 : decode cX5_number 42 = .ok (.getfield 26, 3) := by decide +kernel
theorem dX5_number_45 : decode cX5_number 45 = .ok (.aload_n 0, 1) := by decide +kernel
theorem dX5_number_46 : decode cX5_number 46 = .ok (.getfield 138, 3) := by decide +kernel
theorem dX5_number_49 : decode cX5_number 49 = .ok (.iaload, 1) := by decide +kernel
theorem dX5_number_50 : decode cX5_number 50 = .ok (.bipush 48, 2) := by decide +kernel
theorem dX5_number_52 : decode cX5_number 52 = .ok (.bipush 57, 2) := by decide +kernel
theorem dX5_number_54 : decode cX5_number 54 = .ok (.invokestatic 29, 3) := by decide +kernel
theorem dX5_number_57 : decode cX5_number 57 = .ok (.ifCond .eq 26, 3) := by decide +kernel
theorem dX5_number_60 : decode cX5_number 60 = .ok (.bipush 10, 2) := by decide +kernel
theorem dX5_number_62 : decode cX5_number 62 = .ok (.iload_n 1, 1) := by decide +kernel
theorem dX5_number_63 : decode cX5_number 63 = .ok (.imul, 1) := by decide +kernel
theorem dX5_number_64 : decode cX5_number 64 = .ok (.aload_n 0, 1) := by decide +kernel
theorem dX5_number_65 : decode cX5_number 65 = .ok (.bipush 48, 2) := by decide +kernel
theorem dX5_number_67 : decode cX5_number 67 = .ok (.bipush 57, 2) := by decide +kernel
theorem dX5_number_69 : decode cX5_number 69 = .ok (.invokevirtual 145, 3) := by decide +kernel
theorem dX5_number_72 : decode cX5_number 72 = .ok (.iadd, 1) := by decide +kernel
theorem dX5_number_73 : decode cX5_number 73 = .ok (.bipush 48, 2) := by decide +kernel
theorem dX5_number_75 : decode cX5_number 75 = .ok (.isub, 1) := by decide +kernel
theorem dX5_number_76 : decode cX5_number 76 = .ok (.istore_n 1, 1) := by decide +kernel
theorem dX5_number_77 : decode cX5_number 77 = .ok (.iinc 2 1, 3) := by decide +kernel
theorem dX5_number_80 : decode cX5_number 80 = .ok (.goto (-66), 3) := by decide +kernel
theorem dX5_number_83 : decode cX5_number 83 = .ok (.iload_n 1, 1) := by decide +kernel
theorem dX5_number_84 : decode cX5_number 84 = .ok (.ireturn, 1) := by decide +kernel
set_option maxRecDepth 20000 in
theorem ggX5_order_X5_number : GoodIn wsX5_order wsX5_number := goodIn_r _ [12, 4, 1, 2, 3, 13, 14, 15, 11, 16, 17, 18, 19, 20, 21, 22, 23, 24, 25, 26, 27, 28, 29, 30, 31, 32] (by decide +kernel) (by decide +kernel)
set_option maxRecDepth 20000 in
theorem gX5_order_X5_number : GoodIn wsX5_order (wsV RX5 151 RX5 yX5_number wsX5_number) := goodIn_app (goodIn_of _ (by decide +kernel)) ggX5_order_X5_number
set_option maxRecDepth 20000 in
theorem ggX5_order_X5_sign : GoodIn wsX5_order wsX5_sign := goodIn_r _ [16, 1, 2, 3, 4, 17, 18, 11, 19, 20, 21, 22, 23, 24, 25, 26, 27, 28, 29, 30, 31, 32] (by decide +kernel) (by decide +kernel)
set_option maxRecDepth 20000 in
theorem gX5_order_X5_sign : GoodIn wsX5_order (wsV RX5 145 RX5 yX5_sign wsX5_sign) := goodIn_app (goodIn_of _ (by decide +kernel)) ggX5_order_X5_sign
theorem dX5_order_0 : decode cX5_order 0 = .ok (.aload_n 0, 1) := by decide +kernel
theorem dX5_order_1 : decode cX5_order 1 = .ok (.getfield 138, 3) := by decide +kernel
theorem dX5_order_4 : decode cX5_order 4 = .ok (.aload_n 0, 1) := by decide +kernel
theorem dX5_order_5 : decode cX5_order 5 = .ok (.getfield 112, 3) := by decide +kernel
theorem dX5_order_8 : decode cX5_order 8 = .ok (.if_icmp .ge 15, 3) := by decide +kernel
theorem dX5_order_11 : decode cX5_order 11 = .ok (.aload_n 0, 1) := by decide +kernel
theorem dX5_order_12 : decode cX5_order 12 = .ok (.getfield 26, 3) := by decide +kernel
theorem dX5_order_15 : decode cX5_order 15 = .ok (.aload_n 0, 1) := by decide +kernel
theorem dX5_order_16 : decode cX5_order 16 = .ok (.getfield 138, 3) := by decide +kernel
theorem dX5_order_19 : decode cX5_order 19 = .ok (.iaload, 1) := by decide +kernel
theorem dX5_order_20 : decode cX5_order 20 = .ok (.goto 4, 3) := by decide +kernel
theorem dX5_order_23 : decode cX5_order 23 = .ok (.iconst 0, 1) := by decide +kernel
theorem dX5_order_24 : decode cX5_order 24 = .ok (.istore_n 1, 1) := by decide +kernel
theorem dX5_order_25 : decode cX5_order 25 = .ok (.aload_n 0, 1) := by decide +kernel
theorem dX5_order_26 : decode cX5_order 26 = .ok (.aload_n 0, 1) := by decide +kernel
theorem dX5_order_27 : decode cX5_order 27 = .ok (.getfield 141, 3) := by decide +kernel
theorem dX5_order_30 : decode cX5_order 30 = .ok (.ifCond .ne 33, 3) := by decide +kernel
theorem dX5_order_33 : decode cX5_order 33 = .ok (.iload_n 1, 1) := by decide +kernel
theorem dX5_order_34 : decode cX5_order 34 = .ok (.bipush 119, 2) := by decide +kernel
theorem dX5_order_36 : decode cX5_order 36 = .ok (.if_icmp .eq 31, 3) := by decide +kernel
theorem dX5_order_39 : decode cX5_order 39 = .ok (.iload_n 1, 1) := by decide +kernel
theorem dX5_order_40 : decode cX5_order 40 = .ok (.bipush 114, 2) := by decide +kernel
theorem dX5_order_42 : decode cX5_order 42 = .ok (.if_icmp .eq 25, 3) := by decide +kernel
theorem dX5_order_45 : decode cX5_order 45 = .ok (.iload_n 1, 1) := by decide +kernel
theorem dX5_order_46 : decode cX5_order 46 = .ok (.bipush 33, 2) := by decide +kernel
theorem dX5_order_48 : decode cX5_order 48 = .ok (.if_icmp .eq 19, 3) := by decide +kernel
theorem dX5_order_51 : decode cX5_order 51 = .ok (.iload_n 1, 1) := by decide +kernel
theorem dX5_order_52 : decode cX5_order 52 = .ok (.bipush 120, 2) := by decide +kernel
theorem dX5_order_54 : decode cX5_order 54 = .ok (.if_icmp .eq 13, 3) := by decide +kernel
theorem dX5_order_57 : decode cX5_order 57 = .ok (.iload_n 1, 1) := by decide +kernel
theorem dX5_order_58 : decode cX5_order 58 = .ok (.bipush 115, 2) := by decide +kernel
theorem dX5_order_60 : decode cX5_order 60 = .ok (.if_icmp .eq 7, 3) := by decide +kernel
theorem dX5_order_63 : decode cX5_order 63 = .ok (.iconst 1, 1) := by decide +kernel
theorem dX5_order_64 : decode cX5_order 64 = .ok (.goto 4, 3) := by decide +kernel
theorem dX5_order_67 : decode cX5_order 67 = .ok (.iconst 0, 1) := by decide +kernel
theorem dX5_order_68 : decode cX5_order 68 = .ok (.putfield 141, 3) := by decide +kernel
theorem dX5_order_71 : decode cX5_order 71 = .ok (.aload_n 0, 1) := by decide +kernel
theorem dX5_order_72 : decode cX5_order 72 = .ok (.dup, 1) := by decide +kernel
theorem dX5_order_73 : decode cX5_order 73 = .ok (.getfield 138, 3) := by decide +kernel
theorem dX5_order_76 : decode cX5_order 76 = .ok (.aload_n 0, 1) := by decide +kernel
theorem dX5_order_77 : decode cX5_order 77 = .ok (.getfield 141, 3) := by decide +kernel
theorem dX5_order_80 : decode cX5_order 80 = .ok (.ifCond .eq 7, 3) := by decide +kernel
theorem dX5_order_83 : decode cX5_order 83 = .ok (.iconst 0, 1) := by decide +kernel
theorem dX5_order_84 : decode cX5_order 84 = .ok (.goto 4, 3) := by decide +kernel
theorem dX5_order_87 : decode cX5_order 87 = .ok (.iconst 1, 1) := by decide +kernel
theorem dX5_order_88 : decode cX5_order 88 = .ok (.iadd, 1) := by decide +kernel
theorem dX5_order_89 : decode cX5_order 89 = .ok (.putfield 138, 3) := by decide +kernel
theorem dX5_order_92 : decode cX5_order 92 = .ok (.aload_n 0, 1) := by decide +kernel
theorem dX5_order_93 : decode cX5_order 93 = .ok (.iload_n 1, 1) := by decide +kernel
theorem dX5_order_94 : decode cX5_order 94 = .ok (.putfield 148, 3) := by decide +kernel
theorem dX5_order_97 : decode cX5_order 97 = .ok (.aload_n 0, 1) := by decide +kernel
theorem dX5_order_98 : decode cX5_order 98 = .ok (.iload_n 1, 1) := by decide +kernel
theorem dX5_order_99 : decode cX5_order 99 = .ok (.bipush 119, 2) := by decide +kernel
theorem dX5_order_101 : decode cX5_order 101 = .ok (.if_icmp .eq 9, 3) := by decide +kernel
theorem dX5_order_104 : decode cX5_order 104 = .ok (.iload_n 1, 1) := by decide +kernel
theorem dX5_order_105 : decode cX5_order 105 = .ok (.bipush 114, 2) := by decide +kernel
theorem dX5_order_107 : decode cX5_order 107 = .ok (.if_icmp .ne 10, 3) := by decide +kernel
theorem dX5_order_110 : decode cX5_order 110 = .ok (.aload_n 0, 1) := by decide +kernel
theorem dX5_order_111 : decode cX5_order 111 = .ok (.invokevirtual 151, 3) := by decide +kernel
theorem dX5_order_114 : decode cX5_order 114 = .ok (.goto 30, 3) := by decide +kernel
theorem dX5_order_117 : decode cX5_order 117 = .ok (.iload_n 1, 1) := by decide +kernel
theorem dX5_order_118 : decode cX5_order 118 = .ok (.bipush 33, 2) := by decide +kernel
theorem dX5_order_120 : decode cX5_order 120 = .ok (.if_icmp .eq 9, 3) := by decide +kernel
theorem dX5_order_123 : decode cX5_order 123 = .ok (.iload_n 1, 1) := by decide +kernel
theorem dX5_order_124 : decode cX5_order 124 = .ok (.bipush 120, 2) := by decide +kernel
theorem dX5_order_126 : decode cX5_order 126 = .ok (.if_icmp .ne 17, 3) := by decide +kernel
theorem dX5_order_129 : decode cX5_order 129 = .ok (.aload_n 0, 1) := by decide +kernel
theorem dX5_order_130 : decode cX5_order 130 = .ok (.bipush 48, 2) := by decide +kernel
theorem dX5_order_132 : decode cX5_order 132 = .ok (.bipush 49, 2) := by decide +kernel
theorem dX5_order_134 : decode cX5_order 134 = .ok (.invokevirtual 145, 3) := by decide +kernel
theorem dX5_order_137 : decode cX5_order 137 = .ok (.bipush 48, 2) := by decide +kernel
theorem dX5_order_139 : decode cX5_order 139 = .ok (.isub, 1) := by decide +kernel
theorem dX5_order_140 : decode cX5_order 140 = .ok (.goto 4, 3) := by decide +kernel
theorem dX5_order_143 : decode cX5_order 143 = .ok (.iconst 0, 1) := by decide +kernel
theorem dX5_order_144 : decode cX5_order 144 = .ok (.putfield 154, 3) := by decide +kernel
theorem dX5_order_147 : decode cX5_order 147 = .ok (.iload_n 1, 1) := by decide +kernel
theorem dX5_order_148 : decode cX5_order 148 = .ok (.bipush 119, 2) := by decide +kernel
theorem dX5_order_150 : decode cX5_order 150 = .ok (.if_icmp .ne 14, 3) := by decide +kernel
theorem dX5_order_153 : decode cX5_order 153 = .ok (.aload_n 0, 1) := by decide +kernel
theorem dX5_order_154 : decode cX5_order 154 = .ok (.bipush 61, 2) := by decide +kernel
theorem dX5_order_156 : decode cX5_order 156 = .ok (.bipush 61, 2) := by decide +kernel
theorem dX5_order_158 : decode cX5_order 158 = .ok (.invokevirtual 145, 3) := by decide +kernel
theorem dX5_order_161 : decode cX5_order 161 = .ok (.goto 4, 3) := by decide +kernel
theorem dX5_order_164 : decode cX5_order 164 = .ok (.iconst 0, 1) := by decide +kernel
theorem dX5_order_165 : decode cX5_order 165 = .ok (.istore_n 2, 1) := by decide +kernel
theorem dX5_order_166 : decode cX5_order 166 = .ok (.aload_n 0, 1) := by decide +kernel
theorem dX5_order_167 : decode cX5_order 167 = .ok (.iload_n 1, 1) := by decide +kernel
theorem dX5_order_168 : decode cX5_order 168 = .ok (.bipush 119, 2) := by decide +kernel
theorem dX5_order_170 : decode cX5_order 170 = .ok (.if_icmp .eq 9, 3) := by decide +kernel
theorem dX5_order_173 : decode cX5_order 173 = .ok (.iload_n 1, 1) := by decide +kernel
theorem dX5_order_174 : decode cX5_order 174 = .ok (.bipush 120, 2) := by decide +kernel
theorem dX5_order_176 : decode cX5_order 176 = .ok (.if_icmp .ne 10, 3) := by decide +kernel
theorem dX5_order_179 : decode cX5_order 179 = .ok (.aload_n 0, 1) := by decide +kernel
theorem dX5_order_180 : decode cX5_order 180 = .ok (.invokevirtual 151, 3) := by decide +kernel
theorem dX5_order_183 : decode cX5_order 183 = .ok (.goto 24, 3) := by decide +kernel
theorem dX5_order_186 : decode cX5_order 186 = .ok (.iload_n 1, 1) := by decide +kernel
theorem dX5_order_187 : decode cX5_order 187 = .ok (.bipush 33, 2) := by decide +kernel
theorem dX5_order_189 : decode cX5_order 189 = .ok (.if_icmp .ne 17, 3) := by decide +kernel
theorem dX5_order_192 : decode cX5_order 192 = .ok (.aload_n 0, 1) := by decide +kernel
theorem dX5_order_193 : decode cX5_order 193 = .ok (.bipush 48, 2) := by decide +kernel
theorem dX5_order_195 : decode cX5_order 195 = .ok (.bipush 52, 2) := by decide +kernel
theorem dX5_order_197 : decode cX5_order 197 = .ok (.invokevirtual 145, 3) := by decide +kernel
theorem dX5_order_200 : decode cX5_order 200 = .ok (.bipush 48, 2) := by decide +kernel
theorem dX5_order_202 : decode cX5_order 202 = .ok (.isub, 1) := by decide +kernel
theorem dX5_order_203 : decode cX5_order 203 = .ok (.goto 4, 3) := by decide +kernel
theorem dX5_order_206 : decode cX5_order 206 = .ok (.iconst 0, 1) := by decide +kernel
theorem dX5_order_207 : decode cX5_order 207 = .ok (.putfield 157, 3) := by decide +kernel
theorem dX5_order_210 : decode cX5_order 210 = .ok (.return_, 1) := by decide +kernel
set_option maxRecDepth 20000 in
theorem ggX5_does_X5_writeFault : GoodIn wsX5_does wsX5_writeFault := goodIn_r _ [8, 9, 10, 11, 12, 7, 13, 14, 15, 16, 79, 80, 81, 82, 83, 84, 85, 86, 87, 88, 89, 90, 91] (by decide +kernel) (by decide +kernel)
set_option maxRecDepth 20000 in
theorem gX5_does_X5_writeFault : GoodIn wsX5_does (wsV RX5 79 RX5 yX5_writeFault wsX5_writeFault) := goodIn_app (goodIn_of _ (by decide +kernel)) ggX5_does_X5_writeFault
set_option maxRecDepth 20000 in
theorem ggX5_does_X5_isPlace : GoodIn wsX5_does wsX5_isPlace := goodIn_r _ [13, 9, 14, 15, 7, 16, 79, 80, 81, 82, 83, 84, 85, 86, 87, 88, 89, 90, 91] (by decide +kernel) (by decide +kernel)
set_option maxRecDepth 20000 in
theorem gX5_does_X5_isPlace : GoodIn wsX5_does (wsV RX5 55 RX5 yX5_isPlace wsX5_isPlace) := goodIn_app (goodIn_of _ (by decide +kernel)) ggX5_does_X5_isPlace
set_option maxRecDepth 20000 in
theorem ggX5_does_X5_wipeFault : GoodIn wsX5_does wsX5_wipeFault := goodIn_r _ [20, 14, 15, 7, 16, 10, 11, 12, 13, 9, 79, 80, 81, 82, 83, 84, 85, 86, 87, 88, 89, 90, 91] (by decide +kernel) (by decide +kernel)
set_option maxRecDepth 20000 in
theorem gX5_does_X5_wipeFault : GoodIn wsX5_does (wsV RX5 91 RX5 yX5_wipeFault wsX5_wipeFault) := goodIn_app (goodIn_of _ (by decide +kernel)) ggX5_does_X5_wipeFault
set_option maxRecDepth 20000 in
theorem ggX5_does_X5_writes : GoodIn wsX5_does wsX5_writes := goodIn_r _ [24, 9, 25, 26, 7, 27, 28, 29, 30, 31, 32, 33, 34, 79, 80, 81, 82, 83, 84, 85, 86, 87, 88, 89, 90, 91] (by decide +kernel) (by decide +kernel)
set_option maxRecDepth 20000 in
theorem gX5_does_X5_writes : GoodIn wsX5_does (wsV RX5 82 RX5 yX5_writes wsX5_writes) := goodIn_app (goodIn_of _ (by decide +kernel)) ggX5_does_X5_writes
set_option maxRecDepth 20000 in
theorem ggX5_does_X5_reads : GoodIn wsX5_does wsX5_reads := goodIn_r _ [38, 9, 39, 40, 41, 7, 42, 43, 44, 45, 46, 32, 33, 34, 47, 48, 49, 50, 25, 26, 27, 51, 52, 53, 54, 55, 56, 57, 58, 79, 80, 81, 82, 83, 84, 85, 86, 87, 88, 89, 90, 91] (by decide +kernel) (by decide +kernel)
set_option maxRecDepth 20000 in
theorem gX5_does_X5_reads : GoodIn wsX5_does (wsV RX5 97 RX5 yX5_reads wsX5_reads) := goodIn_app (goodIn_of _ (by decide +kernel)) ggX5_does_X5_reads
set_option maxRecDepth 20000 in
theorem ggX5_does_X5_awaits : GoodIn wsX5_does wsX5_awaits := goodIn_r _ [62, 9, 79, 80, 81, 82, 83, 84, 85, 86, 87, 88, 89, 90, 91] (by decide +kernel) (by decide +kernel)
set_option maxRecDepth 20000 in
theorem gX5_does_X5_awaits : GoodIn wsX5_does (wsV RX5 88 RX5 yX5_awaits wsX5_awaits) := goodIn_app (goodIn_of _ (by decide +kernel)) ggX5_does_X5_awaits
set_option maxRecDepth 20000 in
theorem ggX5_does_X5_wipes : GoodIn wsX5_does wsX5_wipes := goodIn_r _ [66, 9, 32, 33, 7, 34, 79, 80, 81, 82, 83, 84, 85, 86, 87, 88, 89, 90, 91] (by decide +kernel) (by decide +kernel)
set_option maxRecDepth 20000 in
theorem gX5_does_X5_wipes : GoodIn wsX5_does (wsV RX5 94 RX5 yX5_wipes wsX5_wipes) := goodIn_app (goodIn_of _ (by decide +kernel)) ggX5_does_X5_wipes
set_option maxRecDepth 20000 in
theorem ggX5_does_X5_scrubs : GoodIn wsX5_does wsX5_scrubs := goodIn_r _ [70, 9, 71, 72, 73, 7, 74, 75, 76, 77, 78, 39, 40, 41, 42, 43, 44, 45, 46, 32, 33, 34, 47, 48, 49, 50, 25, 26, 27, 79, 80, 81, 82, 83, 84, 85, 86, 87, 88, 89, 90, 91] (by decide +kernel) (by decide +kernel)
set_option maxRecDepth 20000 in
theorem gX5_does_X5_scrubs : GoodIn wsX5_does (wsV RX5 100 RX5 yX5_scrubs wsX5_scrubs) := goodIn_app (goodIn_of _ (by decide +kernel)) ggX5_does_X5_scrubs
theorem dX5_does_0 : decode cX5_does 0 = .ok (.aload_n 0, 1) := by decide +kernel
theorem dX5_does_1 : decode cX5_does 1 = .ok (.getfield 148, 3) := by decide +kernel
theorem dX5_does_4 : decode cX5_does 4 = .ok (.istore_n 1, 1) := by decide +kernel
theorem dX5_does_5 : decode cX5_does 5 = .ok (.iload_n 1, 1) := by decide +kernel
theorem dX5_does_6 : decode cX5_does 6 = .ok (.bipush 119, 2) := by decide +kernel
theorem dX5_does_8 : decode cX5_does 8 = .ok (.if_icmp .ne 18, 3) := by decide +kernel
theorem dX5_does_11 : decode cX5_does 11 = .ok (.aload_n 0, 1) := by decide +kernel
theorem dX5_does_12 : decode cX5_does 12 = .ok (.aload_n 0, 1) := by decide +kernel
theorem dX5_does_13 : decode cX5_does 13 = .ok (.getfield 154, 3) := by decide +kernel
theorem dX5_does_16 : decode cX5_does 16 = .ok (.aload_n 0, 1) := by decide +kernel
theorem dX5_does_17 : decode cX5_does 17 = .ok (.getfield 157, 3) := by decide +kernel
theorem dX5_does_20 : decode cX5_does 20 = .ok (.invokevirtual 79, 3) := by decide +kernel
theorem dX5_does_23 : decode cX5_does 23 = .ok (.goto 50, 3) := by decide +kernel
theorem dX5_does_26 : decode cX5_does 26 = .ok (.iload_n 1, 1) := by decide +kernel
theorem dX5_does_27 : decode cX5_does 27 = .ok (.bipush 114, 2) := by decide +kernel
theorem dX5_does_29 : decode cX5_does 29 = .ok (.if_icmp .ne 22, 3) := by decide +kernel
theorem dX5_does_32 : decode cX5_does 32 = .ok (.aload_n 0, 1) := by decide +kernel
theorem dX5_does_33 : decode cX5_does 33 = .ok (.aload_n 0, 1) := by decide +kernel
theorem dX5_does_34 : decode cX5_does 34 = .ok (.getfield 154, 3) := by decide +kernel
theorem dX5_does_37 : decode cX5_does 37 = .ok (.invokevirtual 55, 3) := by decide +kernel
theorem dX5_does_40 : decode cX5_does 40 = .ok (.ifCond .eq 7, 3) := by decide +kernel
theorem dX5_does_43 : decode cX5_does 43 = .ok (.iconst 0, 1) := by decide +kernel
theorem dX5_does_44 : decode cX5_does 44 = .ok (.goto 29, 3) := by decide +kernel
theorem dX5_does_47 : decode cX5_does 47 = .ok (.iconst (-1), 1) := by decide +kernel
theorem dX5_does_48 : decode cX5_does 48 = .ok (.goto 25, 3) := by decide +kernel
theorem dX5_does_51 : decode cX5_does 51 = .ok (.iload_n 1, 1) := by decide +kernel
theorem dX5_does_52 : decode cX5_does 52 = .ok (.bipush 120, 2) := by decide +kernel
theorem dX5_does_54 : decode cX5_does 54 = .ok (.if_icmp .ne 18, 3) := by decide +kernel
theorem dX5_does_57 : decode cX5_does 57 = .ok (.aload_n 0, 1) := by decide +kernel
theorem dX5_does_58 : decode cX5_does 58 = .ok (.aload_n 0, 1) := by decide +kernel
theorem dX5_does_59 : decode cX5_does 59 = .ok (.getfield 154, 3) := by decide +kernel
theorem dX5_does_62 : decode cX5_does 62 = .ok (.aload_n 0, 1) := by decide +kernel
theorem dX5_does_63 : decode cX5_does 63 = .ok (.getfield 157, 3) := by decide +kernel
theorem dX5_does_66 : decode cX5_does 66 = .ok (.invokevirtual 91, 3) := by decide +kernel
theorem dX5_does_69 : decode cX5_does 69 = .ok (.goto 4, 3) := by decide +kernel
theorem dX5_does_72 : decode cX5_does 72 = .ok (.iconst 0, 1) := by decide +kernel
theorem dX5_does_73 : decode cX5_does 73 = .ok (.istore_n 2, 1) := by decide +kernel
theorem dX5_does_74 : decode cX5_does 74 = .ok (.iload_n 2, 1) := by decide +kernel
theorem dX5_does_75 : decode cX5_does 75 = .ok (.ifCond .ne 88, 3) := by decide +kernel
theorem dX5_does_78 : decode cX5_does 78 = .ok (.iload_n 1, 1) := by decide +kernel
theorem dX5_does_79 : decode cX5_does 79 = .ok (.bipush 119, 2) := by decide +kernel
theorem dX5_does_81 : decode cX5_does 81 = .ok (.if_icmp .ne 18, 3) := by decide +kernel
theorem dX5_does_84 : decode cX5_does 84 = .ok (.aload_n 0, 1) := by decide +kernel
theorem dX5_does_85 : decode cX5_does 85 = .ok (.aload_n 0, 1) := by decide +kernel
theorem dX5_does_86 : decode cX5_does 86 = .ok (.getfield 154, 3) := by decide +kernel
theorem dX5_does_89 : decode cX5_does 89 = .ok (.aload_n 0, 1) := by decide +kernel
theorem dX5_does_90 : decode cX5_does 90 = .ok (.getfield 157, 3) := by decide +kernel
theorem dX5_does_93 : decode cX5_does 93 = .ok (.invokevirtual 82, 3) := by decide +kernel
theorem dX5_does_96 : decode cX5_does 96 = .ok (.goto 66, 3) := by decide +kernel
theorem dX5_does_99 : decode cX5_does 99 = .ok (.iload_n 1, 1) := by decide +kernel
theorem dX5_does_100 : decode cX5_does 100 = .ok (.bipush 114, 2) := by decide +kernel
theorem dX5_does_102 : decode cX5_does 102 = .ok (.if_icmp .ne 14, 3) := by decide +kernel
theorem dX5_does_105 : decode cX5_does 105 = .ok (.aload_n 0, 1) := by decide +kernel
theorem dX5_does_106 : decode cX5_does 106 = .ok (.aload_n 0, 1) := by decide +kernel
theorem dX5_does_107 : decode cX5_does 107 = .ok (.getfield 154, 3) := by decide +kernel
theorem dX5_does_110 : decode cX5_does 110 = .ok (.invokevirtual 97, 3) := by decide +kernel
theorem dX5_does_113 : decode cX5_does 113 = .ok (.goto 49, 3) := by decide +kernel
theorem dX5_does_116 : decode cX5_does 116 = .ok (.iload_n 1, 1) := by decide +kernel
theorem dX5_does_117 : decode cX5_does 117 = .ok (.bipush 33, 2) := by decide +kernel
theorem dX5_does_119 : decode cX5_does 119 = .ok (.if_icmp .ne 18, 3) := by decide +kernel
theorem dX5_does_122 : decode cX5_does 122 = .ok (.aload_n 0, 1) := by decide +kernel
theorem dX5_does_123 : decode cX5_does 123 = .ok (.aload_n 0, 1) := by decide +kernel
theorem dX5_does_124 : decode cX5_does 124 = .ok (.getfield 154, 3) := by decide +kernel
theorem dX5_does_127 : decode cX5_does 127 = .ok (.aload_n 0, 1) := by decide +kernel
theorem dX5_does_128 : decode cX5_does 128 = .ok (.getfield 157, 3) := by decide +kernel
theorem dX5_does_131 : decode cX5_does 131 = .ok (.invokevirtual 88, 3) := by decide +kernel
theorem dX5_does_134 : decode cX5_does 134 = .ok (.goto 28, 3) := by decide +kernel
theorem dX5_does_137 : decode cX5_does 137 = .ok (.iload_n 1, 1) := by decide +kernel
theorem dX5_does_138 : decode cX5_does 138 = .ok (.bipush 120, 2) := by decide +kernel
theorem dX5_does_140 : decode cX5_does 140 = .ok (.if_icmp .ne 18, 3) := by decide +kernel
theorem dX5_does_143 : decode cX5_does 143 = .ok (.aload_n 0, 1) := by decide +kernel
theorem dX5_does_144 : decode cX5_does 144 = .ok (.aload_n 0, 1) := by decide +kernel
theorem dX5_does_145 : decode cX5_does 145 = .ok (.getfield 154, 3) := by decide +kernel
theorem dX5_does_148 : decode cX5_does 148 = .ok (.aload_n 0, 1) := by decide +kernel
theorem dX5_does_149 : decode cX5_does 149 = .ok (.getfield 157, 3) := by decide +kernel
theorem dX5_does_152 : decode cX5_does 152 = .ok (.invokevirtual 94, 3) := by decide +kernel
theorem dX5_does_155 : decode cX5_does 155 = .ok (.goto 7, 3) := by decide +kernel
theorem dX5_does_158 : decode cX5_does 158 = .ok (.aload_n 0, 1) := by decide +kernel
theorem dX5_does_159 : decode cX5_does 159 = .ok (.invokevirtual 100, 3) := by decide +kernel
theorem dX5_does_162 : decode cX5_does 162 = .ok (.istore_n 3, 1) := by decide +kernel
theorem dX5_does_163 : decode cX5_does 163 = .ok (.iload_n 2, 1) := by decide +kernel
theorem dX5_does_164 : decode cX5_does 164 = .ok (.ifCond .ne 7, 3) := by decide +kernel
theorem dX5_does_167 : decode cX5_does 167 = .ok (.iconst 1, 1) := by decide +kernel
theorem dX5_does_168 : decode cX5_does 168 = .ok (.goto 4, 3) := by decide +kernel
theorem dX5_does_171 : decode cX5_does 171 = .ok (.iconst 0, 1) := by decide +kernel
theorem dX5_does_172 : decode cX5_does 172 = .ok (.ireturn, 1) := by decide +kernel
set_option maxRecDepth 20000 in
theorem ggX5_go_X5_order : GoodIn wsX5_go wsX5_order := goodIn_r _ [8, 1, 3, 9, 2, 10, 11, 12, 13, 14, 15, 7, 16, 17, 18, 19, 20, 21, 22, 23, 99, 100, 101, 102, 103, 104, 105, 106, 107, 108, 109, 110, 111] (by decide +kernel) (by decide +kernel)
set_option maxRecDepth 20000 in
theorem gX5_go_X5_order : GoodIn wsX5_go (wsV RX5 160 RX5 yX5_order wsX5_order) := goodIn_app (goodIn_of _ (by decide +kernel)) ggX5_go_X5_order
set_option maxRecDepth 20000 in
theorem ggX5_go_X5_does : GoodIn wsX5_go wsX5_does := goodIn_r _ [27, 10, 11, 12, 28, 29, 30, 7, 31, 32, 33, 34, 35, 36, 21, 22, 23, 37, 38, 39, 40, 41, 42, 43, 44, 45, 46, 47, 48, 49, 50, 51, 52, 53, 54, 55, 56, 57, 58, 59, 60, 61, 62, 63, 64, 65, 66, 67, 68, 69, 70, 71, 72, 73, 74, 75, 76, 77, 78, 79, 80, 81, 82, 83, 84, 85, 86, 87, 88, 89, 90, 91, 92, 93, 94, 95, 96, 97, 98, 99, 100, 101, 102, 103, 104, 105, 106, 107, 108, 109, 110, 111] (by decide +kernel) (by decide +kernel)
set_option maxRecDepth 20000 in
theorem gX5_go_X5_does : GoodIn wsX5_go (wsV RX5 163 RX5 yX5_does wsX5_does) := goodIn_app (goodIn_of _ (by decide +kernel)) ggX5_go_X5_does
set_option maxRecDepth 20000 in
theorem ggX5_go_X5_sign : GoodIn wsX5_go wsX5_sign := goodIn_r _ [20, 1, 3, 9, 2, 21, 22, 7, 23, 99, 100, 101, 102, 103, 104, 105, 106, 107, 108, 109, 110, 111] (by decide +kernel) (by decide +kernel)
set_option maxRecDepth 20000 in
theorem gX5_go_X5_sign : GoodIn wsX5_go (wsV RX5 145 RX5 yX5_sign wsX5_sign) := goodIn_app (goodIn_of _ (by decide +kernel)) ggX5_go_X5_sign
theorem dX5_go_0 : decode cX5_go 0 = .ok (.aload_n 0, 1) := by decide +kernel
theorem dX5_go_1 : decode cX5_go 1 = .ok (.iconst 0, 1) := by decide +kernel
theorem dX5_go_2 : decode cX5_go 2 = .ok (.putfield 138, 3) := by decide +kernel
theorem dX5_go_5 : decode cX5_go 5 = .ok (.aload_n 0, 1) := by decide +kernel
theorem dX5_go_6 : decode cX5_go 6 = .ok (.iconst 0, 1) := by decide +kernel
theorem dX5_go_7 : decode cX5_go 7 = .ok (.putfield 141, 3) := by decide +kernel
theorem dX5_go_10 : decode cX5_go 10 = .ok (.iconst 0, 1) := by decide +kernel
theorem dX5_go_11 : decode cX5_go 11 = .ok (.istore_n 2, 1) := by decide +kernel
theorem dX5_go_12 : decode cX5_go 12 = .ok (.iconst 1, 1) := by decide +kernel
theorem dX5_go_13 : decode cX5_go 13 = .ok (.istore_n 3, 1) := by decide +kernel
theorem dX5_go_14 : decode cX5_go 14 = .ok (.iload_n 3, 1) := by decide +kernel
theorem dX5_go_15 : decode cX5_go 15 = .ok (.ifCond .eq 101, 3) := by decide +kernel
theorem dX5_go_18 : decode cX5_go 18 = .ok (.aload_n 0, 1) := by decide +kernel
theorem dX5_go_19 : decode cX5_go 19 = .ok (.invokevirtual 160, 3) := by decide +kernel
theorem dX5_go_22 : decode cX5_go 22 = .ok (.iload_n 1, 1) := by decide +kernel
theorem dX5_go_23 : decode cX5_go 23 = .ok (.ifCond .eq 14, 3) := by decide +kernel
theorem dX5_go_26 : decode cX5_go 26 = .ok (.aload_n 0, 1) := by decide +kernel
theorem dX5_go_27 : decode cX5_go 27 = .ok (.invokevirtual 163, 3) := by decide +kernel
theorem dX5_go_30 : decode cX5_go 30 = .ok (.ifCond .eq 7, 3) := by decide +kernel
theorem dX5_go_33 : decode cX5_go 33 = .ok (.iconst 1, 1) := by decide +kernel
theorem dX5_go_34 : decode cX5_go 34 = .ok (.goto 4, 3) := by decide +kernel
theorem dX5_go_37 : decode cX5_go 37 = .ok (.iconst 0, 1) := by decide +kernel
theorem dX5_go_38 : decode cX5_go 38 = .ok (.istore 4, 2) := by decide +kernel
theorem dX5_go_40 : decode cX5_go 40 = .ok (.iload_n 2, 1) := by decide +kernel
theorem dX5_go_41 : decode cX5_go 41 = .ok (.iload 4, 2) := by decide +kernel
theorem dX5_go_43 : decode cX5_go 43 = .ok (.ifCond .eq 7, 3) := by decide +kernel
theorem dX5_go_46 : decode cX5_go 46 = .ok (.iconst 1, 1) := by decide +kernel
theorem dX5_go_47 : decode cX5_go 47 = .ok (.goto 4, 3) := by decide +kernel
theorem dX5_go_50 : decode cX5_go 50 = .ok (.iconst 0, 1) := by decide +kernel
theorem dX5_go_51 : decode cX5_go 51 = .ok (.iadd, 1) := by decide +kernel
theorem dX5_go_52 : decode cX5_go 52 = .ok (.istore_n 2, 1) := by decide +kernel
theorem dX5_go_53 : decode cX5_go 53 = .ok (.aload_n 0, 1) := by decide +kernel
theorem dX5_go_54 : decode cX5_go 54 = .ok (.getfield 141, 3) := by decide +kernel
theorem dX5_go_57 : decode cX5_go 57 = .ok (.ifCond .ne 27, 3) := by decide +kernel
theorem dX5_go_60 : decode cX5_go 60 = .ok (.iload 4, 2) := by decide +kernel
theorem dX5_go_62 : decode cX5_go 62 = .ok (.ifCond .ne 7, 3) := by decide +kernel
theorem dX5_go_65 : decode cX5_go 65 = .ok (.iload_n 1, 1) := by decide +kernel
theorem dX5_go_66 : decode cX5_go 66 = .ok (.ifCond .ne 18, 3) := by decide +kernel
theorem dX5_go_69 : decode cX5_go 69 = .ok (.aload_n 0, 1) := by decide +kernel
theorem dX5_go_70 : decode cX5_go 70 = .ok (.getfield 138, 3) := by decide +kernel
theorem dX5_go_73 : decode cX5_go 73 = .ok (.aload_n 0, 1) := by decide +kernel
theorem dX5_go_74 : decode cX5_go 74 = .ok (.getfield 112, 3) := by decide +kernel
theorem dX5_go_77 : decode cX5_go 77 = .ok (.if_icmp .ge 7, 3) := by decide +kernel
theorem dX5_go_80 : decode cX5_go 80 = .ok (.iconst 1, 1) := by decide +kernel
theorem dX5_go_81 : decode cX5_go 81 = .ok (.goto 4, 3) := by decide +kernel
theorem dX5_go_84 : decode cX5_go 84 = .ok (.iconst 0, 1) := by decide +kernel
theorem dX5_go_85 : decode cX5_go 85 = .ok (.istore_n 3, 1) := by decide +kernel
theorem dX5_go_86 : decode cX5_go 86 = .ok (.iload_n 3, 1) := by decide +kernel
theorem dX5_go_87 : decode cX5_go 87 = .ok (.ifCond .eq 26, 3) := by decide +kernel
theorem dX5_go_90 : decode cX5_go 90 = .ok (.aload_n 0, 1) := by decide +kernel
theorem dX5_go_91 : decode cX5_go 91 = .ok (.bipush 59, 2) := by decide +kernel
theorem dX5_go_93 : decode cX5_go 93 = .ok (.bipush 59, 2) := by decide +kernel
theorem dX5_go_95 : decode cX5_go 95 = .ok (.invokevirtual 145, 3) := by decide +kernel
theorem dX5_go_98 : decode cX5_go 98 = .ok (.istore 5, 2) := by decide +kernel
theorem dX5_go_100 : decode cX5_go 100 = .ok (.aload_n 0, 1) := by decide +kernel
theorem dX5_go_101 : decode cX5_go 101 = .ok (.getfield 141, 3) := by decide +kernel
theorem dX5_go_104 : decode cX5_go 104 = .ok (.ifCond .ne 7, 3) := by decide +kernel
theorem dX5_go_107 : decode cX5_go 107 = .ok (.iconst 1, 1) := by decide +kernel
theorem dX5_go_108 : decode cX5_go 108 = .ok (.goto 4, 3) := by decide +kernel
theorem dX5_go_111 : decode cX5_go 111 = .ok (.iconst 0, 1) := by decide +kernel
theorem dX5_go_112 : decode cX5_go 112 = .ok (.istore_n 3, 1) := by decide +kernel
theorem dX5_go_113 : decode cX5_go 113 = .ok (.goto (-99), 3) := by decide +kernel
theorem dX5_go_116 : decode cX5_go 116 = .ok (.iload_n 2, 1) := by decide +kernel
theorem dX5_go_117 : decode cX5_go 117 = .ok (.ireturn, 1) := by decide +kernel
set_option maxRecDepth 20000 in
theorem ggX5_fault_X5_go : GoodIn wsX5_fault wsX5_go := goodIn_r _ [7, 2, 1, 8, 9, 10, 11, 6, 12, 13, 14, 15, 16, 17, 18, 19, 20, 21, 22, 23, 24, 25, 26, 27, 28, 29, 30, 31, 32, 33, 34, 35, 36, 37, 38, 39, 40, 41, 42, 43, 44, 45, 46, 47, 48, 49, 50, 51, 52, 53, 54, 55, 56, 57, 58, 59, 60, 61, 62, 63, 64, 65, 66, 67, 68, 69, 70, 71, 72, 73, 74, 75, 76, 77, 78, 79, 80, 81, 82, 83, 84, 85, 86, 87, 88, 89, 90, 91, 92, 93, 94, 95, 96, 97, 98, 99, 100, 101, 102, 103, 104, 105, 106, 107, 108, 109, 110, 111, 112, 113, 114, 115] (by decide +kernel) (by decide +kernel)
set_option maxRecDepth 20000 in
theorem gX5_fault_X5_go : GoodIn wsX5_fault (wsV RX5 167 RX5 yX5_go wsX5_go) := goodIn_app (goodIn_of _ (by decide +kernel)) ggX5_fault_X5_go
theorem dX5_fault_0 : decode cX5_fault 0 = .ok (.aload_n 0, 1) := by decide +kernel
theorem dX5_fault_1 : decode cX5_fault 1 = .ok (.iconst 0, 1) := by decide +kernel
theorem dX5_fault_2 : decode cX5_fault 2 = .ok (.invokevirtual 167, 3) := by decide +kernel
theorem dX5_fault_5 : decode cX5_fault 5 = .ok (.istore_n 1, 1) := by decide +kernel
theorem dX5_fault_6 : decode cX5_fault 6 = .ok (.aload_n 0, 1) := by decide +kernel
theorem dX5_fault_7 : decode cX5_fault 7 = .ok (.getfield 141, 3) := by decide +kernel
theorem dX5_fault_10 : decode cX5_fault 10 = .ok (.ifCond .eq 10, 3) := by decide +kernel
theorem dX5_fault_13 : decode cX5_fault 13 = .ok (.aload_n 0, 1) := by decide +kernel
theorem dX5_fault_14 : decode cX5_fault 14 = .ok (.getfield 138, 3) := by decide +kernel
theorem dX5_fault_17 : decode cX5_fault 17 = .ok (.goto 5, 3) := by decide +kernel
theorem dX5_fault_20 : decode cX5_fault 20 = .ok (.bipush (-6), 2) := by decide +kernel
theorem dX5_fault_22 : decode cX5_fault 22 = .ok (.ireturn, 1) := by decide +kernel
set_option maxRecDepth 20000 in
theorem ggX5_carryOut_X5_go : GoodIn wsX5_carryOut wsX5_go := goodIn_r _ [7, 8, 1, 2, 9, 10, 11, 6, 12, 13, 14, 15, 16, 17, 18, 19, 20, 21, 22, 23, 24, 25, 26, 27, 28, 29, 30, 31, 32, 33, 34, 35, 36, 37, 38, 39, 40, 41, 42, 43, 44, 45, 46, 47, 48, 49, 50, 51, 52, 53, 54, 55, 56, 57, 58, 59, 60, 61, 62, 63, 64, 65, 66, 67, 68, 69, 70, 71, 72, 73, 74, 75, 76, 77, 78, 79, 80, 81, 82, 83, 84, 85, 86, 87, 88, 89, 90, 91, 92, 93, 94, 95, 96, 97, 98, 99, 100, 101, 102, 109, 110, 111, 112, 113, 114, 115, 116, 117, 118, 119, 120, 121] (by decide +kernel) (by decide +kernel)
set_option maxRecDepth 20000 in
theorem gX5_carryOut_X5_go : GoodIn wsX5_carryOut (wsV RX5 167 RX5 yX5_go wsX5_go) := goodIn_app (goodIn_of _ (by decide +kernel)) ggX5_carryOut_X5_go
set_option maxRecDepth 20000 in
theorem ggX5_carryOut_X5_know : GoodIn wsX5_carryOut wsX5_know := goodIn_r _ [106, 107, 108, 36, 109, 110, 111, 112, 113, 114, 115, 116, 117, 118, 119, 120, 121] (by decide +kernel) (by decide +kernel)
set_option maxRecDepth 20000 in
theorem gX5_carryOut_X5_know : GoodIn wsX5_carryOut (wsV RX5 76 RX5 yX5_know wsX5_know) := goodIn_app (goodIn_of _ (by decide +kernel)) ggX5_carryOut_X5_know
theorem dX5_carryOut_0 : decode cX5_carryOut 0 = .ok (.aload_n 0, 1) := by decide +kernel
theorem dX5_carryOut_1 : decode cX5_carryOut 1 = .ok (.iconst 0, 1) := by decide +kernel
theorem dX5_carryOut_2 : decode cX5_carryOut 2 = .ok (.invokevirtual 167, 3) := by decide +kernel
theorem dX5_carryOut_5 : decode cX5_carryOut 5 = .ok (.istore_n 1, 1) := by decide +kernel
theorem dX5_carryOut_6 : decode cX5_carryOut 6 = .ok (.aload_n 0, 1) := by decide +kernel
theorem dX5_carryOut_7 : decode cX5_carryOut 7 = .ok (.getfield 141, 3) := by decide +kernel
theorem dX5_carryOut_10 : decode cX5_carryOut 10 = .ok (.ifCond .eq 6, 3) := by decide +kernel
theorem dX5_carryOut_13 : decode cX5_carryOut 13 = .ok (.bipush (-3), 2) := by decide +kernel
theorem dX5_carryOut_15 : decode cX5_carryOut 15 = .ok (.ireturn, 1) := by decide +kernel
theorem dX5_carryOut_16 : decode cX5_carryOut 16 = .ok (.aload_n 0, 1) := by decide +kernel
theorem dX5_carryOut_17 : decode cX5_carryOut 17 = .ok (.invokevirtual 76, 3) := by decide +kernel
theorem dX5_carryOut_20 : decode cX5_carryOut 20 = .ok (.aload_n 0, 1) := by decide +kernel
theorem dX5_carryOut_21 : decode cX5_carryOut 21 = .ok (.iconst 1, 1) := by decide +kernel
theorem dX5_carryOut_22 : decode cX5_carryOut 22 = .ok (.invokevirtual 167, 3) := by decide +kernel
theorem dX5_carryOut_25 : decode cX5_carryOut 25 = .ok (.istore_n 2, 1) := by decide +kernel
theorem dX5_carryOut_26 : decode cX5_carryOut 26 = .ok (.aload_n 0, 1) := by decide +kernel
theorem dX5_carryOut_27 : decode cX5_carryOut 27 = .ok (.iconst 0, 1) := by decide +kernel
theorem dX5_carryOut_28 : decode cX5_carryOut 28 = .ok (.putfield 112, 3) := by decide +kernel
theorem dX5_carryOut_31 : decode cX5_carryOut 31 = .ok (.iload_n 2, 1) := by decide +kernel
theorem dX5_carryOut_32 : decode cX5_carryOut 32 = .ok (.ireturn, 1) := by decide +kernel
theorem dX5_undo_0 : decode cX5_undo 0 = .ok (.aload_n 0, 1) := by decide +kernel
theorem dX5_undo_1 : decode cX5_undo 1 = .ok (.getfield 33, 3) := by decide +kernel
theorem dX5_undo_4 : decode cX5_undo 4 = .ok (.ifCond .ne 6, 3) := by decide +kernel
theorem dX5_undo_7 : decode cX5_undo 7 = .ok (.bipush (-5), 2) := by decide +kernel
theorem dX5_undo_9 : decode cX5_undo 9 = .ok (.ireturn, 1) := by decide +kernel
theorem dX5_undo_10 : decode cX5_undo 10 = .ok (.aload_n 0, 1) := by decide +kernel
theorem dX5_undo_11 : decode cX5_undo 11 = .ok (.dup, 1) := by decide +kernel
theorem dX5_undo_12 : decode cX5_undo 12 = .ok (.getfield 33, 3) := by decide +kernel
theorem dX5_undo_15 : decode cX5_undo 15 = .ok (.iconst 1, 1) := by decide +kernel
theorem dX5_undo_16 : decode cX5_undo 16 = .ok (.isub, 1) := by decide +kernel
theorem dX5_undo_17 : decode cX5_undo 17 = .ok (.putfield 33, 3) := by decide +kernel
theorem dX5_undo_20 : decode cX5_undo 20 = .ok (.iconst 0, 1) := by decide +kernel
theorem dX5_undo_21 : decode cX5_undo 21 = .ok (.istore_n 1, 1) := by decide +kernel
theorem dX5_undo_22 : decode cX5_undo 22 = .ok (.iload_n 1, 1) := by decide +kernel
theorem dX5_undo_23 : decode cX5_undo 23 = .ok (.sipush 360, 3) := by decide +kernel
theorem dX5_undo_26 : decode cX5_undo 26 = .ok (.if_icmp .ge 30, 3) := by decide +kernel
theorem dX5_undo_29 : decode cX5_undo 29 = .ok (.aload_n 0, 1) := by decide +kernel
theorem dX5_undo_30 : decode cX5_undo 30 = .ok (.getfield 7, 3) := by decide +kernel
theorem dX5_undo_33 : decode cX5_undo 33 = .ok (.iload_n 1, 1) := by decide +kernel
theorem dX5_undo_34 : decode cX5_undo 34 = .ok (.aload_n 0, 1) := by decide +kernel
theorem dX5_undo_35 : decode cX5_undo 35 = .ok (.getfield 16, 3) := by decide +kernel
theorem dX5_undo_38 : decode cX5_undo 38 = .ok (.sipush 360, 3) := by decide +kernel
theorem dX5_undo_41 : decode cX5_undo 41 = .ok (.aload_n 0, 1) := by decide +kernel
theorem dX5_undo_42 : decode cX5_undo 42 = .ok (.getfield 33, 3) := by decide +kernel
theorem dX5_undo_45 : decode cX5_undo 45 = .ok (.imul, 1) := by decide +kernel
theorem dX5_undo_46 : decode cX5_undo 46 = .ok (.iload_n 1, 1) := by decide +kernel
theorem dX5_undo_47 : decode cX5_undo 47 = .ok (.iadd, 1) := by decide +kernel
theorem dX5_undo_48 : decode cX5_undo 48 = .ok (.iaload, 1) := by decide +kernel
theorem dX5_undo_49 : decode cX5_undo 49 = .ok (.iastore, 1) := by decide +kernel
theorem dX5_undo_50 : decode cX5_undo 50 = .ok (.iinc 1 1, 3) := by decide +kernel
theorem dX5_undo_53 : decode cX5_undo 53 = .ok (.goto (-31), 3) := by decide +kernel
theorem dX5_undo_56 : decode cX5_undo 56 = .ok (.aload_n 0, 1) := by decide +kernel
theorem dX5_undo_57 : decode cX5_undo 57 = .ok (.getfield 33, 3) := by decide +kernel
theorem dX5_undo_60 : decode cX5_undo 60 = .ok (.ireturn, 1) := by decide +kernel
set_option maxRecDepth 20000 in
theorem ggX5_save_X5_in : GoodIn wsX5_save wsX5_in := goodIn_r _ [7] (by decide +kernel) (by decide +kernel)
set_option maxRecDepth 20000 in
theorem gX5_save_X5_in : GoodIn wsX5_save (va_wsS RX5 29 yX5_in wsX5_in) := goodIn_app (goodIn_of _ (by decide +kernel)) ggX5_save_X5_in
set_option maxRecDepth 20000 in
theorem ggX5_save_X5_many : GoodIn wsX5_save wsX5_many := goodIn_r _ [11, 2, 12, 13, 14, 6, 15, 16, 17, 18, 19, 20, 21, 22, 23, 24, 25, 26, 27, 28, 29, 30, 31, 32, 33, 34, 35, 36, 37, 38, 39, 40, 41, 42, 43, 44, 45, 46, 47, 48, 49, 50, 51, 52, 53, 54, 55, 56, 57, 58] (by decide +kernel) (by decide +kernel)
set_option maxRecDepth 20000 in
theorem gX5_save_X5_many : GoodIn wsX5_save (wsV RX5 117 RX5 yX5_many wsX5_many) := goodIn_app (goodIn_of _ (by decide +kernel)) ggX5_save_X5_many
theorem dX5_save_0 : decode cX5_save 0 = .ok (.iload_n 1, 1) := by decide +kernel
theorem dX5_save_1 : decode cX5_save 1 = .ok (.iconst 0, 1) := by decide +kernel
theorem dX5_save_2 : decode cX5_save 2 = .ok (.iconst 1, 1) := by decide +kernel
theorem dX5_save_3 : decode cX5_save 3 = .ok (.invokestatic 29, 3) := by decide +kernel
theorem dX5_save_6 : decode cX5_save 6 = .ok (.ifCond .ne 6, 3) := by decide +kernel
theorem dX5_save_9 : decode cX5_save 9 = .ok (.bipush (-2), 2) := by decide +kernel
theorem dX5_save_11 : decode cX5_save 11 = .ok (.ireturn, 1) := by decide +kernel
theorem dX5_save_12 : decode cX5_save 12 = .ok (.iconst 0, 1) := by decide +kernel
theorem dX5_save_13 : decode cX5_save 13 = .ok (.istore_n 2, 1) := by decide +kernel
theorem dX5_save_14 : decode cX5_save 14 = .ok (.iload_n 2, 1) := by decide +kernel
theorem dX5_save_15 : decode cX5_save 15 = .ok (.sipush 360, 3) := by decide +kernel
theorem dX5_save_18 : decode cX5_save 18 = .ok (.if_icmp .ge 27, 3) := by decide +kernel
theorem dX5_save_21 : decode cX5_save 21 = .ok (.aload_n 0, 1) := by decide +kernel
theorem dX5_save_22 : decode cX5_save 22 = .ok (.getfield 19, 3) := by decide +kernel
theorem dX5_save_25 : decode cX5_save 25 = .ok (.sipush 360, 3) := by decide +kernel
theorem dX5_save_28 : decode cX5_save 28 = .ok (.iload_n 1, 1) := by decide +kernel
theorem dX5_save_29 : decode cX5_save 29 = .ok (.imul, 1) := by decide +kernel
theorem dX5_save_30 : decode cX5_save 30 = .ok (.iload_n 2, 1) := by decide +kernel
theorem dX5_save_31 : decode cX5_save 31 = .ok (.iadd, 1) := by decide +kernel
theorem dX5_save_32 : decode cX5_save 32 = .ok (.aload_n 0, 1) := by decide +kernel
theorem dX5_save_33 : decode cX5_save 33 = .ok (.getfield 7, 3) := by decide +kernel
theorem dX5_save_36 : decode cX5_save 36 = .ok (.iload_n 2, 1) := by decide +kernel
theorem dX5_save_37 : decode cX5_save 37 = .ok (.iaload, 1) := by decide +kernel
theorem dX5_save_38 : decode cX5_save 38 = .ok (.iastore, 1) := by decide +kernel
theorem dX5_save_39 : decode cX5_save 39 = .ok (.iinc 2 1, 3) := by decide +kernel
theorem dX5_save_42 : decode cX5_save 42 = .ok (.goto (-28), 3) := by decide +kernel
theorem dX5_save_45 : decode cX5_save 45 = .ok (.aload_n 0, 1) := by decide +kernel
theorem dX5_save_46 : decode cX5_save 46 = .ok (.getfield 22, 3) := by decide +kernel
theorem dX5_save_49 : decode cX5_save 49 = .ok (.iload_n 1, 1) := by decide +kernel
theorem dX5_save_50 : decode cX5_save 50 = .ok (.iconst 1, 1) := by decide +kernel
theorem dX5_save_51 : decode cX5_save 51 = .ok (.bastore, 1) := by decide +kernel
theorem dX5_save_52 : decode cX5_save 52 = .ok (.aload_n 0, 1) := by decide +kernel
theorem dX5_save_53 : decode cX5_save 53 = .ok (.iconst 0, 1) := by decide +kernel
theorem dX5_save_54 : decode cX5_save 54 = .ok (.invokevirtual 117, 3) := by decide +kernel
theorem dX5_save_57 : decode cX5_save 57 = .ok (.ireturn, 1) := by decide +kernel
set_option maxRecDepth 20000 in
theorem ggX5_restore_X5_in : GoodIn wsX5_restore wsX5_in := goodIn_r _ [7] (by decide +kernel) (by decide +kernel)
set_option maxRecDepth 20000 in
theorem gX5_restore_X5_in : GoodIn wsX5_restore (va_wsS RX5 29 yX5_in wsX5_in) := goodIn_app (goodIn_of _ (by decide +kernel)) ggX5_restore_X5_in
set_option maxRecDepth 20000 in
theorem ggX5_restore_X5_know : GoodIn wsX5_restore wsX5_know := goodIn_r _ [11, 12, 13, 2, 52, 53, 54, 55, 56, 57, 58, 59, 60, 61, 62, 63, 64] (by decide +kernel) (by decide +kernel)
set_option maxRecDepth 20000 in
theorem gX5_restore_X5_know : GoodIn wsX5_restore (wsV RX5 76 RX5 yX5_know wsX5_know) := goodIn_app (goodIn_of _ (by decide +kernel)) ggX5_restore_X5_know
set_option maxRecDepth 20000 in
theorem ggX5_restore_X5_many : GoodIn wsX5_restore wsX5_many := goodIn_r _ [17, 2, 18, 19, 20, 6, 21, 22, 23, 24, 25, 26, 27, 28, 29, 30, 31, 32, 33, 34, 35, 36, 37, 38, 39, 40, 41, 42, 43, 44, 45, 46, 47, 48, 49, 50, 51, 52, 53, 54, 55, 56, 57, 58, 59, 60, 61, 62, 63, 64] (by decide +kernel) (by decide +kernel)
set_option maxRecDepth 20000 in
theorem gX5_restore_X5_many : GoodIn wsX5_restore (wsV RX5 117 RX5 yX5_many wsX5_many) := goodIn_app (goodIn_of _ (by decide +kernel)) ggX5_restore_X5_many
