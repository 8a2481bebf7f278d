theorem dX12_goes_164 : decode cX12_goes 164 = .ok (.iload 5, 2) := by decide +kernel
theorem dX12_goes_166 : decode cX12_goes 166 = .ok (.if_icmp .ne 7, 3) := by decide +kernel
theorem dX12_goes_169 : decode cX12_goes 169 = .ok (.iconst 1, 1) := by decide +kernel
theorem dX12_goes_170 : decode cX12_goes 170 = .ok (.goto 4, 3) := by decide +kernel
theorem dX12_goes_173 : decode cX12_goes 173 = .ok (.iconst 0, 1) := by decide +kernel
theorem dX12_goes_174 : decode cX12_goes 174 = .ok (.iadd, 1) := by decide +kernel
theorem dX12_goes_175 : decode cX12_goes 175 = .ok (.putfield 140, 3) := by decide +kernel
theorem dX12_goes_178 : decode cX12_goes 178 = .ok (.iinc 8 1, 3) := by decide +kernel
theorem dX12_goes_181 : decode cX12_goes 181 = .ok (.goto (-88), 3) := by decide +kernel
theorem dX12_goes_184 : decode cX12_goes 184 = .ok (.return_, 1) := by decide +kernel
set_option maxRecDepth 20000 in
theorem ggX12_toss_X12_areThere : GoodIn wsX12_toss wsX12_areThere := goodIn_r _ [9, 10, 11, 12, 8, 13, 14, 15, 16, 17, 18, 19, 20, 21, 22, 23, 24, 25, 42, 43, 44, 45, 46, 47, 48, 49, 50, 51, 52, 53, 54, 55, 56, 57, 58, 59, 60, 61, 62, 63] (by decide +kernel) (by decide +kernel)
set_option maxRecDepth 20000 in
theorem gX12_toss_X12_areThere : GoodIn wsX12_toss (wsV RX12 156 RX12 yX12_areThere wsX12_areThere) := goodIn_app (goodIn_of _ (by decide +kernel)) ggX12_toss_X12_areThere
set_option maxRecDepth 20000 in
theorem ggX12_toss_X12_in : GoodIn wsX12_toss wsX12_in := goodIn_r _ [17] (by decide +kernel) (by decide +kernel)
set_option maxRecDepth 20000 in
theorem gX12_toss_X12_in : GoodIn wsX12_toss (va_wsS RX12 32 yX12_in wsX12_in) := goodIn_app (goodIn_of _ (by decide +kernel)) ggX12_toss_X12_in
set_option maxRecDepth 20000 in
theorem ggX12_toss_X12_goes : GoodIn wsX12_toss wsX12_goes := goodIn_r _ [29, 2, 3, 14, 4, 30, 31, 1, 32, 33, 34, 8, 35, 36, 37, 38, 39, 40, 41, 42, 43, 44, 45, 46, 47, 48, 49, 50, 51, 52, 53, 54, 55, 56, 57, 58, 59, 60, 61, 62, 63] (by decide +kernel) (by decide +kernel)
set_option maxRecDepth 20000 in
theorem gX12_toss_X12_goes : GoodIn wsX12_toss (wsV RX12 159 RX12 yX12_goes wsX12_goes) := goodIn_app (goodIn_of _ (by decide +kernel)) ggX12_toss_X12_goes
theorem dX12_toss_0 : decode cX12_toss 0 = .ok (.aload_n 0, 1) := by decide +kernel
theorem dX12_toss_1 : decode cX12_toss 1 = .ok (.iload_n 1, 1) := by decide +kernel
theorem dX12_toss_2 : decode cX12_toss 2 = .ok (.iload_n 2, 1) := by decide +kernel
theorem dX12_toss_3 : decode cX12_toss 3 = .ok (.iload_n 3, 1) := by decide +kernel
theorem dX12_toss_4 : decode cX12_toss 4 = .ok (.invokevirtual 156, 3) := by decide +kernel
theorem dX12_toss_7 : decode cX12_toss 7 = .ok (.ifCond .eq 13, 3) := by decide +kernel
theorem dX12_toss_10 : decode cX12_toss 10 = .ok (.iload 5, 2) := by decide +kernel
theorem dX12_toss_12 : decode cX12_toss 12 = .ok (.iconst 0, 1) := by decide +kernel
theorem dX12_toss_13 : decode cX12_toss 13 = .ok (.iconst 3, 1) := by decide +kernel
theorem dX12_toss_14 : decode cX12_toss 14 = .ok (.invokestatic 32, 3) := by decide +kernel
theorem dX12_toss_17 : decode cX12_toss 17 = .ok (.ifCond .ne 5, 3) := by decide +kernel
theorem dX12_toss_20 : decode cX12_toss 20 = .ok (.iconst (-1), 1) := by decide +kernel
theorem dX12_toss_21 : decode cX12_toss 21 = .ok (.ireturn, 1) := by decide +kernel
theorem dX12_toss_22 : decode cX12_toss 22 = .ok (.iload 4, 2) := by decide +kernel
theorem dX12_toss_24 : decode cX12_toss 24 = .ok (.iconst 1, 1) := by decide +kernel
theorem dX12_toss_25 : decode cX12_toss 25 = .ok (.bipush 40, 2) := by decide +kernel
theorem dX12_toss_27 : decode cX12_toss 27 = .ok (.invokestatic 32, 3) := by decide +kernel
theorem dX12_toss_30 : decode cX12_toss 30 = .ok (.ifCond .ne 6, 3) := by decide +kernel
theorem dX12_toss_33 : decode cX12_toss 33 = .ok (.bipush (-2), 2) := by decide +kernel
theorem dX12_toss_35 : decode cX12_toss 35 = .ok (.ireturn, 1) := by decide +kernel
theorem dX12_toss_36 : decode cX12_toss 36 = .ok (.aload_n 0, 1) := by decide +kernel
theorem dX12_toss_37 : decode cX12_toss 37 = .ok (.iload_n 1, 1) := by decide +kernel
theorem dX12_toss_38 : decode cX12_toss 38 = .ok (.iload_n 2, 1) := by decide +kernel
theorem dX12_toss_39 : decode cX12_toss 39 = .ok (.iload_n 3, 1) := by decide +kernel
theorem dX12_toss_40 : decode cX12_toss 40 = .ok (.iload 4, 2) := by decide +kernel
theorem dX12_toss_42 : decode cX12_toss 42 = .ok (.iconst 1, 1) := by decide +kernel
theorem dX12_toss_43 : decode cX12_toss 43 = .ok (.iconst 0, 1) := by decide +kernel
theorem dX12_toss_44 : decode cX12_toss 44 = .ok (.invokevirtual 159, 3) := by decide +kernel
theorem dX12_toss_47 : decode cX12_toss 47 = .ok (.iload 5, 2) := by decide +kernel
theorem dX12_toss_49 : decode cX12_toss 49 = .ok (.ifCond .ne 10, 3) := by decide +kernel
theorem dX12_toss_52 : decode cX12_toss 52 = .ok (.aload_n 0, 1) := by decide +kernel
theorem dX12_toss_53 : decode cX12_toss 53 = .ok (.getfield 153, 3) := by decide +kernel
theorem dX12_toss_56 : decode cX12_toss 56 = .ok (.goto 33, 3) := by decide +kernel
theorem dX12_toss_59 : decode cX12_toss 59 = .ok (.iload 5, 2) := by decide +kernel
theorem dX12_toss_61 : decode cX12_toss 61 = .ok (.iconst 1, 1) := by decide +kernel
theorem dX12_toss_62 : decode cX12_toss 62 = .ok (.if_icmp .ne 10, 3) := by decide +kernel
theorem dX12_toss_65 : decode cX12_toss 65 = .ok (.aload_n 0, 1) := by decide +kernel
theorem dX12_toss_66 : decode cX12_toss 66 = .ok (.getfield 137, 3) := by decide +kernel
theorem dX12_toss_69 : decode cX12_toss 69 = .ok (.goto 20, 3) := by decide +kernel
theorem dX12_toss_72 : decode cX12_toss 72 = .ok (.iload 5, 2) := by decide +kernel
theorem dX12_toss_74 : decode cX12_toss 74 = .ok (.iconst 2, 1) := by decide +kernel
theorem dX12_toss_75 : decode cX12_toss 75 = .ok (.if_icmp .ne 10, 3) := by decide +kernel
theorem dX12_toss_78 : decode cX12_toss 78 = .ok (.aload_n 0, 1) := by decide +kernel
theorem dX12_toss_79 : decode cX12_toss 79 = .ok (.getfield 140, 3) := by decide +kernel
theorem dX12_toss_82 : decode cX12_toss 82 = .ok (.goto 7, 3) := by decide +kernel
theorem dX12_toss_85 : decode cX12_toss 85 = .ok (.aload_n 0, 1) := by decide +kernel
theorem dX12_toss_86 : decode cX12_toss 86 = .ok (.getfield 143, 3) := by decide +kernel
theorem dX12_toss_89 : decode cX12_toss 89 = .ok (.ireturn, 1) := by decide +kernel
set_option maxRecDepth 20000 in
theorem ggX12_up_X12_areThere : GoodIn wsX12_up wsX12_areThere := goodIn_r _ [7, 8, 9, 10, 6, 11, 1, 12, 13, 14, 15, 16, 17, 18, 19, 20, 21, 22, 42, 43, 44, 45, 46, 47, 48, 49, 50, 51, 52, 53, 54, 55, 56, 57, 58, 59, 60, 61, 62, 63] (by decide +kernel) (by decide +kernel)
set_option maxRecDepth 20000 in
theorem gX12_up_X12_areThere : GoodIn wsX12_up (wsV RX12 156 RX12 yX12_areThere wsX12_areThere) := goodIn_app (goodIn_of _ (by decide +kernel)) ggX12_up_X12_areThere
set_option maxRecDepth 20000 in
theorem ggX12_up_X12_in : GoodIn wsX12_up wsX12_in := goodIn_r _ [14] (by decide +kernel) (by decide +kernel)
set_option maxRecDepth 20000 in
theorem gX12_up_X12_in : GoodIn wsX12_up (va_wsS RX12 32 yX12_in wsX12_in) := goodIn_app (goodIn_of _ (by decide +kernel)) ggX12_up_X12_in
set_option maxRecDepth 20000 in
theorem ggX12_up_X12_goes : GoodIn wsX12_up wsX12_goes := goodIn_r _ [26, 27, 28, 1, 29, 30, 31, 2, 32, 33, 34, 6, 35, 36, 37, 38, 39, 40, 41, 42, 43, 44, 45, 46, 47, 48, 49, 50, 51, 52, 53, 54, 55, 56, 57, 58, 59, 60, 61, 62, 63] (by decide +kernel) (by decide +kernel)
set_option maxRecDepth 20000 in
theorem gX12_up_X12_goes : GoodIn wsX12_up (wsV RX12 159 RX12 yX12_goes wsX12_goes) := goodIn_app (goodIn_of _ (by decide +kernel)) ggX12_up_X12_goes
theorem dX12_up_0 : decode cX12_up 0 = .ok (.aload_n 0, 1) := by decide +kernel
theorem dX12_up_1 : decode cX12_up 1 = .ok (.iload_n 1, 1) := by decide +kernel
theorem dX12_up_2 : decode cX12_up 2 = .ok (.iload_n 2, 1) := by decide +kernel
theorem dX12_up_3 : decode cX12_up 3 = .ok (.iload_n 3, 1) := by decide +kernel
theorem dX12_up_4 : decode cX12_up 4 = .ok (.invokevirtual 156, 3) := by decide +kernel
theorem dX12_up_7 : decode cX12_up 7 = .ok (.ifCond .ne 5, 3) := by decide +kernel
theorem dX12_up_10 : decode cX12_up 10 = .ok (.iconst (-1), 1) := by decide +kernel
theorem dX12_up_11 : decode cX12_up 11 = .ok (.ireturn, 1) := by decide +kernel
theorem dX12_up_12 : decode cX12_up 12 = .ok (.iload 4, 2) := by decide +kernel
theorem dX12_up_14 : decode cX12_up 14 = .ok (.iconst 1, 1) := by decide +kernel
theorem dX12_up_15 : decode cX12_up 15 = .ok (.bipush 40, 2) := by decide +kernel
theorem dX12_up_17 : decode cX12_up 17 = .ok (.invokestatic 32, 3) := by decide +kernel
theorem dX12_up_20 : decode cX12_up 20 = .ok (.ifCond .eq 25, 3) := by decide +kernel
theorem dX12_up_23 : decode cX12_up 23 = .ok (.iload 5, 2) := by decide +kernel
theorem dX12_up_25 : decode cX12_up 25 = .ok (.iconst 1, 1) := by decide +kernel
theorem dX12_up_26 : decode cX12_up 26 = .ok (.iload 4, 2) := by decide +kernel
theorem dX12_up_28 : decode cX12_up 28 = .ok (.aload_n 0, 1) := by decide +kernel
theorem dX12_up_29 : decode cX12_up 29 = .ok (.getfield 9, 3) := by decide +kernel
theorem dX12_up_32 : decode cX12_up 32 = .ok (.sipush 242, 3) := by decide +kernel
theorem dX12_up_35 : decode cX12_up 35 = .ok (.iload_n 1, 1) := by decide +kernel
theorem dX12_up_36 : decode cX12_up 36 = .ok (.iadd, 1) := by decide +kernel
theorem dX12_up_37 : decode cX12_up 37 = .ok (.iaload, 1) := by decide +kernel
theorem dX12_up_38 : decode cX12_up 38 = .ok (.iadd, 1) := by decide +kernel
theorem dX12_up_39 : decode cX12_up 39 = .ok (.invokestatic 32, 3) := by decide +kernel
theorem dX12_up_42 : decode cX12_up 42 = .ok (.ifCond .ne 6, 3) := by decide +kernel
theorem dX12_up_45 : decode cX12_up 45 = .ok (.bipush (-2), 2) := by decide +kernel
theorem dX12_up_47 : decode cX12_up 47 = .ok (.ireturn, 1) := by decide +kernel
theorem dX12_up_48 : decode cX12_up 48 = .ok (.aload_n 0, 1) := by decide +kernel
theorem dX12_up_49 : decode cX12_up 49 = .ok (.iload_n 1, 1) := by decide +kernel
theorem dX12_up_50 : decode cX12_up 50 = .ok (.iload_n 2, 1) := by decide +kernel
theorem dX12_up_51 : decode cX12_up 51 = .ok (.iload_n 3, 1) := by decide +kernel
theorem dX12_up_52 : decode cX12_up 52 = .ok (.iload 4, 2) := by decide +kernel
theorem dX12_up_54 : decode cX12_up 54 = .ok (.iconst 1, 1) := by decide +kernel
theorem dX12_up_55 : decode cX12_up 55 = .ok (.iload 5, 2) := by decide +kernel
theorem dX12_up_57 : decode cX12_up 57 = .ok (.invokevirtual 159, 3) := by decide +kernel
theorem dX12_up_60 : decode cX12_up 60 = .ok (.aload_n 0, 1) := by decide +kernel
theorem dX12_up_61 : decode cX12_up 61 = .ok (.getfield 153, 3) := by decide +kernel
theorem dX12_up_64 : decode cX12_up 64 = .ok (.ireturn, 1) := by decide +kernel
set_option maxRecDepth 20000 in
theorem ggX12_headsFrom_X12_goes : GoodIn wsX12_headsFrom wsX12_goes := goodIn_r _ [7, 8, 9, 1, 10, 11, 12, 2, 13, 14, 15, 6, 16, 17, 18, 19, 20, 21, 22, 23, 24, 25, 26, 27, 28, 29, 30, 31, 32, 33, 34, 35, 36, 37, 38, 39, 40, 41, 42, 43, 44] (by decide +kernel) (by decide +kernel)
set_option maxRecDepth 20000 in
theorem gX12_headsFrom_X12_goes : GoodIn wsX12_headsFrom (wsV RX12 159 RX12 yX12_goes wsX12_goes) := goodIn_app (goodIn_of _ (by decide +kernel)) ggX12_headsFrom_X12_goes
theorem dX12_headsFrom_0 : decode cX12_headsFrom 0 = .ok (.iconst 0, 1) := by decide +kernel
theorem dX12_headsFrom_1 : decode cX12_headsFrom 1 = .ok (.istore 5, 2) := by decide +kernel
theorem dX12_headsFrom_3 : decode cX12_headsFrom 3 = .ok (.aload_n 0, 1) := by decide +kernel
theorem dX12_headsFrom_4 : decode cX12_headsFrom 4 = .ok (.getfield 9, 3) := by decide +kernel
theorem dX12_headsFrom_7 : decode cX12_headsFrom 7 = .ok (.sipush 148, 3) := by decide +kernel
theorem dX12_headsFrom_10 : decode cX12_headsFrom 10 = .ok (.iload_n 2, 1) := by decide +kernel
theorem dX12_headsFrom_11 : decode cX12_headsFrom 11 = .ok (.iadd, 1) := by decide +kernel
theorem dX12_headsFrom_12 : decode cX12_headsFrom 12 = .ok (.iaload, 1) := by decide +kernel
theorem dX12_headsFrom_13 : decode cX12_headsFrom 13 = .ok (.ineg, 1) := by decide +kernel
theorem dX12_headsFrom_14 : decode cX12_headsFrom 14 = .ok (.istore 6, 2) := by decide +kernel
theorem dX12_headsFrom_16 : decode cX12_headsFrom 16 = .ok (.iload 6, 2) := by decide +kernel
theorem dX12_headsFrom_18 : decode cX12_headsFrom 18 = .ok (.aload_n 0, 1) := by decide +kernel
theorem dX12_headsFrom_19 : decode cX12_headsFrom 19 = .ok (.getfield 9, 3) := by decide +kernel
theorem dX12_headsFrom_22 : decode cX12_headsFrom 22 = .ok (.sipush 148, 3) := by decide +kernel
theorem dX12_headsFrom_25 : decode cX12_headsFrom 25 = .ok (.iload_n 2, 1) := by decide +kernel
theorem dX12_headsFrom_26 : decode cX12_headsFrom 26 = .ok (.iadd, 1) := by decide +kernel
theorem dX12_headsFrom_27 : decode cX12_headsFrom 27 = .ok (.iaload, 1) := by decide +kernel
theorem dX12_headsFrom_28 : decode cX12_headsFrom 28 = .ok (.if_icmp .gt 55, 3) := by decide +kernel
theorem dX12_headsFrom_31 : decode cX12_headsFrom 31 = .ok (.aload_n 0, 1) := by decide +kernel
theorem dX12_headsFrom_32 : decode cX12_headsFrom 32 = .ok (.getfield 9, 3) := by decide +kernel
theorem dX12_headsFrom_35 : decode cX12_headsFrom 35 = .ok (.sipush 142, 3) := by decide +kernel
theorem dX12_headsFrom_38 : decode cX12_headsFrom 38 = .ok (.iload_n 2, 1) := by decide +kernel
theorem dX12_headsFrom_39 : decode cX12_headsFrom 39 = .ok (.iadd, 1) := by decide +kernel
theorem dX12_headsFrom_40 : decode cX12_headsFrom 40 = .ok (.iaload, 1) := by decide +kernel
theorem dX12_headsFrom_41 : decode cX12_headsFrom 41 = .ok (.iload 6, 2) := by decide +kernel
theorem dX12_headsFrom_43 : decode cX12_headsFrom 43 = .ok (.iadd, 1) := by decide +kernel
theorem dX12_headsFrom_44 : decode cX12_headsFrom 44 = .ok (.istore 7, 2) := by decide +kernel
theorem dX12_headsFrom_46 : decode cX12_headsFrom 46 = .ok (.aload_n 0, 1) := by decide +kernel
theorem dX12_headsFrom_47 : decode cX12_headsFrom 47 = .ok (.iload_n 1, 1) := by decide +kernel
theorem dX12_headsFrom_48 : decode cX12_headsFrom 48 = .ok (.iload_n 2, 1) := by decide +kernel
theorem dX12_headsFrom_49 : decode cX12_headsFrom 49 = .ok (.iload_n 3, 1) := by decide +kernel
theorem dX12_headsFrom_50 : decode cX12_headsFrom 50 = .ok (.iload 7, 2) := by decide +kernel
theorem dX12_headsFrom_52 : decode cX12_headsFrom 52 = .ok (.iconst 1, 1) := by decide +kernel
theorem dX12_headsFrom_53 : decode cX12_headsFrom 53 = .ok (.if_icmp .ge 7, 3) := by decide +kernel
theorem dX12_headsFrom_56 : decode cX12_headsFrom 56 = .ok (.iconst 1, 1) := by decide +kernel
theorem dX12_headsFrom_57 : decode cX12_headsFrom 57 = .ok (.goto 5, 3) := by decide +kernel
theorem dX12_headsFrom_60 : decode cX12_headsFrom 60 = .ok (.iload 7, 2) := by decide +kernel
theorem dX12_headsFrom_62 : decode cX12_headsFrom 62 = .ok (.iload 4, 2) := by decide +kernel
theorem dX12_headsFrom_64 : decode cX12_headsFrom 64 = .ok (.iconst 0, 1) := by decide +kernel
theorem dX12_headsFrom_65 : decode cX12_headsFrom 65 = .ok (.invokevirtual 159, 3) := by decide +kernel
theorem dX12_headsFrom_68 : decode cX12_headsFrom 68 = .ok (.iload 5, 2) := by decide +kernel
theorem dX12_headsFrom_70 : decode cX12_headsFrom 70 = .ok (.aload_n 0, 1) := by decide +kernel
theorem dX12_headsFrom_71 : decode cX12_headsFrom 71 = .ok (.getfield 153, 3) := by decide +kernel
theorem dX12_headsFrom_74 : decode cX12_headsFrom 74 = .ok (.iadd, 1) := by decide +kernel
theorem dX12_headsFrom_75 : decode cX12_headsFrom 75 = .ok (.istore 5, 2) := by decide +kernel
theorem dX12_headsFrom_77 : decode cX12_headsFrom 77 = .ok (.iinc 6 1, 3) := by decide +kernel
theorem dX12_headsFrom_80 : decode cX12_headsFrom 80 = .ok (.goto (-64), 3) := by decide +kernel
theorem dX12_headsFrom_83 : decode cX12_headsFrom 83 = .ok (.iload 5, 2) := by decide +kernel
theorem dX12_headsFrom_85 : decode cX12_headsFrom 85 = .ok (.ireturn, 1) := by decide +kernel
theorem dX12_divisor_0 : decode cX12_divisor 0 = .ok (.lload_n 0, 1) := by decide +kernel
theorem dX12_divisor_1 : decode cX12_divisor 1 = .ok (.lstore 4, 2) := by decide +kernel
theorem dX12_divisor_3 : decode cX12_divisor 3 = .ok (.lload_n 2, 1) := by decide +kernel
theorem dX12_divisor_4 : decode cX12_divisor 4 = .ok (.lstore 6, 2) := by decide +kernel
theorem dX12_divisor_6 : decode cX12_divisor 6 = .ok (.lload 6, 2) := by decide +kernel
theorem dX12_divisor_8 : decode cX12_divisor 8 = .ok (.lconst 0, 1) := by decide +kernel
theorem dX12_divisor_9 : decode cX12_divisor 9 = .ok (.lcmp, 1) := by decide +kernel
theorem dX12_divisor_10 : decode cX12_divisor 10 = .ok (.ifCond .eq 21, 3) := by decide +kernel
theorem dX12_divisor_13 : decode cX12_divisor 13 = .ok (.lload 4, 2) := by decide +kernel
theorem dX12_divisor_15 : decode cX12_divisor 15 = .ok (.lload 6, 2) := by decide +kernel
theorem dX12_divisor_17 : decode cX12_divisor 17 = .ok (.lrem, 1) := by decide +kernel
theorem dX12_divisor_18 : decode cX12_divisor 18 = .ok (.lstore 8, 2) := by decide +kernel
theorem dX12_divisor_20 : decode cX12_divisor 20 = .ok (.lload 6, 2) := by decide +kernel
theorem dX12_divisor_22 : decode cX12_divisor 22 = .ok (.lstore 4, 2) := by decide +kernel
theorem dX12_divisor_24 : decode cX12_divisor 24 = .ok (.lload 8, 2) := by decide +kernel
theorem dX12_divisor_26 : decode cX12_divisor 26 = .ok (.lstore 6, 2) := by decide +kernel
theorem dX12_divisor_28 : decode cX12_divisor 28 = .ok (.goto (-22), 3) := by decide +kernel
theorem dX12_divisor_31 : decode cX12_divisor 31 = .ok (.lload 4, 2) := by decide +kernel
theorem dX12_divisor_33 : decode cX12_divisor 33 = .ok (.lreturn, 1) := by decide +kernel
set_option maxRecDepth 20000 in
theorem ggX12_lowest_X12_divisor : GoodIn wsX12_lowest wsX12_divisor := goodIn_r _ [4] (by decide +kernel) (by decide +kernel)
set_option maxRecDepth 20000 in
theorem gX12_lowest_X12_divisor : GoodIn wsX12_lowest (va_wsS RX12 163 yX12_divisor wsX12_divisor) := goodIn_app (goodIn_of _ (by decide +kernel)) ggX12_lowest_X12_divisor
theorem dX12_lowest_0 : decode cX12_lowest 0 = .ok (.iload 4, 2) := by decide +kernel
theorem dX12_lowest_2 : decode cX12_lowest 2 = .ok (.ifCond .ne 7, 3) := by decide +kernel
theorem dX12_lowest_5 : decode cX12_lowest 5 = .ok (.lload_n 0, 1) := by decide +kernel
theorem dX12_lowest_6 : decode cX12_lowest 6 = .ok (.goto 4, 3) := by decide +kernel
theorem dX12_lowest_9 : decode cX12_lowest 9 = .ok (.lload_n 2, 1) := by decide +kernel
theorem dX12_lowest_10 : decode cX12_lowest 10 = .ok (.lload_n 0, 1) := by decide +kernel
theorem dX12_lowest_11 : decode cX12_lowest 11 = .ok (.lload_n 2, 1) := by decide +kernel
theorem dX12_lowest_12 : decode cX12_lowest 12 = .ok (.invokestatic 163, 3) := by decide +kernel
theorem dX12_lowest_15 : decode cX12_lowest 15 = .ok (.ldiv, 1) := by decide +kernel
theorem dX12_lowest_16 : decode cX12_lowest 16 = .ok (.lreturn, 1) := by decide +kernel
set_option maxRecDepth 20000 in
theorem ggX12_same_X12_areThere : GoodIn wsX12_same wsX12_areThere := goodIn_r _ [7, 8, 9, 10, 6, 11, 2, 12, 13, 14, 15, 16, 17, 18, 19, 20, 21, 22, 53, 54, 55, 56, 57, 58, 59, 60, 61, 62, 63, 64, 65, 66, 67, 68, 69, 70, 71, 72, 73, 74] (by decide +kernel) (by decide +kernel)
set_option maxRecDepth 20000 in
theorem gX12_same_X12_areThere : GoodIn wsX12_same (wsV RX12 156 RX12 yX12_areThere wsX12_areThere) := goodIn_app (goodIn_of _ (by decide +kernel)) ggX12_same_X12_areThere
set_option maxRecDepth 20000 in
theorem ggX12_same_X12_in : GoodIn wsX12_same wsX12_in := goodIn_r _ [14] (by decide +kernel) (by decide +kernel)
set_option maxRecDepth 20000 in
theorem gX12_same_X12_in : GoodIn wsX12_same (va_wsS RX12 32 yX12_in wsX12_in) := goodIn_app (goodIn_of _ (by decide +kernel)) ggX12_same_X12_in
set_option maxRecDepth 20000 in
theorem ggX12_same_X12_headsFrom : GoodIn wsX12_same wsX12_headsFrom := goodIn_r _ [26, 2, 27, 28, 29, 30, 6, 31, 32, 33, 34, 35, 36, 37, 38, 39, 40, 41, 42, 43, 44, 45, 46, 53, 54, 55, 56, 57, 58, 59, 60, 61, 62, 63, 64, 65, 66, 67, 68, 69, 70, 71, 72, 73, 74] (by decide +kernel) (by decide +kernel)
set_option maxRecDepth 20000 in
theorem gX12_same_X12_headsFrom : GoodIn wsX12_same (wsV RX12 169 RX12 yX12_headsFrom wsX12_headsFrom) := goodIn_app (goodIn_of _ (by decide +kernel)) ggX12_same_X12_headsFrom
set_option maxRecDepth 20000 in
theorem ggX12_same_X12_lowest : GoodIn wsX12_same wsX12_lowest := goodIn_r _ [49, 50, 51, 6, 52] (by decide +kernel) (by decide +kernel)
set_option maxRecDepth 20000 in
theorem gX12_same_X12_lowest : GoodIn wsX12_same (va_wsS RX12 173 yX12_lowest wsX12_lowest) := goodIn_app (goodIn_of _ (by decide +kernel)) ggX12_same_X12_lowest
theorem dX12_same_0 : decode cX12_same 0 = .ok (.aload_n 0, 1) := by decide +kernel
theorem dX12_same_1 : decode cX12_same 1 = .ok (.iload_n 1, 1) := by decide +kernel
theorem dX12_same_2 : decode cX12_same 2 = .ok (.iload_n 2, 1) := by decide +kernel
theorem dX12_same_3 : decode cX12_same 3 = .ok (.iload_n 3, 1) := by decide +kernel
theorem dX12_same_4 : decode cX12_same 4 = .ok (.invokevirtual 156, 3) := by decide +kernel
theorem dX12_same_7 : decode cX12_same 7 = .ok (.ifCond .eq 13, 3) := by decide +kernel
theorem dX12_same_10 : decode cX12_same 10 = .ok (.iload 4, 2) := by decide +kernel
theorem dX12_same_12 : decode cX12_same 12 = .ok (.iconst 0, 1) := by decide +kernel
theorem dX12_same_13 : decode cX12_same 13 = .ok (.iconst 1, 1) := by decide +kernel
theorem dX12_same_14 : decode cX12_same 14 = .ok (.invokestatic 32, 3) := by decide +kernel
theorem dX12_same_17 : decode cX12_same 17 = .ok (.ifCond .ne 7, 3) := by decide +kernel
theorem dX12_same_20 : decode cX12_same 20 = .ok (.ldc2_w 167, 3) := by decide +kernel
theorem dX12_same_23 : decode cX12_same 23 = .ok (.lreturn, 1) := by decide +kernel
theorem dX12_same_24 : decode cX12_same 24 = .ok (.aload_n 0, 1) := by decide +kernel
theorem dX12_same_25 : decode cX12_same 25 = .ok (.iload_n 1, 1) := by decide +kernel
theorem dX12_same_26 : decode cX12_same 26 = .ok (.iload_n 2, 1) := by decide +kernel
theorem dX12_same_27 : decode cX12_same 27 = .ok (.iload_n 3, 1) := by decide +kernel
theorem dX12_same_28 : decode cX12_same 28 = .ok (.iconst 1, 1) := by decide +kernel
theorem dX12_same_29 : decode cX12_same 29 = .ok (.invokevirtual 169, 3) := by decide +kernel
theorem dX12_same_32 : decode cX12_same 32 = .ok (.i2l, 1) := by decide +kernel
theorem dX12_same_33 : decode cX12_same 33 = .ok (.iconst 2, 1) := by decide +kernel
theorem dX12_same_34 : decode cX12_same 34 = .ok (.aload_n 0, 1) := by decide +kernel
theorem dX12_same_35 : decode cX12_same 35 = .ok (.getfield 9, 3) := by decide +kernel
theorem dX12_same_38 : decode cX12_same 38 = .ok (.sipush 148, 3) := by decide +kernel
theorem dX12_same_41 : decode cX12_same 41 = .ok (.iload_n 2, 1) := by decide +kernel
theorem dX12_same_42 : decode cX12_same 42 = .ok (.iadd, 1) := by decide +kernel
theorem dX12_same_43 : decode cX12_same 43 = .ok (.iaload, 1) := by decide +kernel
theorem dX12_same_44 : decode cX12_same 44 = .ok (.imul, 1) := by decide +kernel
theorem dX12_same_45 : decode cX12_same 45 = .ok (.iconst 1, 1) := by decide +kernel
theorem dX12_same_46 : decode cX12_same 46 = .ok (.iadd, 1) := by decide +kernel
theorem dX12_same_47 : decode cX12_same 47 = .ok (.i2l, 1) := by decide +kernel
theorem dX12_same_48 : decode cX12_same 48 = .ok (.iload 4, 2) := by decide +kernel
theorem dX12_same_50 : decode cX12_same 50 = .ok (.invokestatic 173, 3) := by decide +kernel
theorem dX12_same_53 : decode cX12_same 53 = .ok (.lreturn, 1) := by decide +kernel
set_option maxRecDepth 20000 in
theorem ggX12_heads_X12_areThere : GoodIn wsX12_heads wsX12_areThere := goodIn_r _ [8, 9, 10, 11, 7, 12, 3, 13, 14, 15, 16, 17, 18, 19, 20, 21, 22, 23, 54, 55, 56, 57, 58, 59, 60, 61, 62, 63, 64, 65, 66, 67, 68, 69, 70, 71, 72, 73, 74, 75] (by decide +kernel) (by decide +kernel)
set_option maxRecDepth 20000 in
theorem gX12_heads_X12_areThere : GoodIn wsX12_heads (wsV RX12 156 RX12 yX12_areThere wsX12_areThere) := goodIn_app (goodIn_of _ (by decide +kernel)) ggX12_heads_X12_areThere
set_option maxRecDepth 20000 in
theorem ggX12_heads_X12_in : GoodIn wsX12_heads wsX12_in := goodIn_r _ [15] (by decide +kernel) (by decide +kernel)
set_option maxRecDepth 20000 in
theorem gX12_heads_X12_in : GoodIn wsX12_heads (va_wsS RX12 32 yX12_in wsX12_in) := goodIn_app (goodIn_of _ (by decide +kernel)) ggX12_heads_X12_in
set_option maxRecDepth 20000 in
theorem ggX12_heads_X12_headsFrom : GoodIn wsX12_heads wsX12_headsFrom := goodIn_r _ [27, 3, 28, 29, 30, 31, 7, 32, 33, 34, 35, 36, 37, 38, 39, 40, 41, 42, 43, 44, 45, 46, 47, 54, 55, 56, 57, 58, 59, 60, 61, 62, 63, 64, 65, 66, 67, 68, 69, 70, 71, 72, 73, 74, 75] (by decide +kernel) (by decide +kernel)
set_option maxRecDepth 20000 in
theorem gX12_heads_X12_headsFrom : GoodIn wsX12_heads (wsV RX12 169 RX12 yX12_headsFrom wsX12_headsFrom) := goodIn_app (goodIn_of _ (by decide +kernel)) ggX12_heads_X12_headsFrom
set_option maxRecDepth 20000 in
theorem ggX12_heads_X12_lowest : GoodIn wsX12_heads wsX12_lowest := goodIn_r _ [50, 51, 52, 7, 53] (by decide +kernel) (by decide +kernel)
set_option maxRecDepth 20000 in
theorem gX12_heads_X12_lowest : GoodIn wsX12_heads (va_wsS RX12 173 yX12_lowest wsX12_lowest) := goodIn_app (goodIn_of _ (by decide +kernel)) ggX12_heads_X12_lowest
theorem dX12_heads_0 : decode cX12_heads 0 = .ok (.aload_n 0, 1) := by decide +kernel
theorem dX12_heads_1 : decode cX12_heads 1 = .ok (.iload_n 1, 1) := by decide +kernel
theorem dX12_heads_2 : decode cX12_heads 2 = .ok (.iload_n 2, 1) := by decide +kernel
theorem dX12_heads_3 : decode cX12_heads 3 = .ok (.iload_n 3, 1) := by decide +kernel
theorem dX12_heads_4 : decode cX12_heads 4 = .ok (.invokevirtual 156, 3) := by decide +kernel
theorem dX12_heads_7 : decode cX12_heads 7 = .ok (.ifCond .eq 24, 3) := by decide +kernel
theorem dX12_heads_10 : decode cX12_heads 10 = .ok (.iload 4, 2) := by decide +kernel
theorem dX12_heads_12 : decode cX12_heads 12 = .ok (.iconst 0, 1) := by decide +kernel
theorem dX12_heads_13 : decode cX12_heads 13 = .ok (.bipush 100, 2) := by decide +kernel
theorem dX12_heads_15 : decode cX12_heads 15 = .ok (.invokestatic 32, 3) := by decide +kernel
theorem dX12_heads_18 : decode cX12_heads 18 = .ok (.ifCond .eq 13, 3) := by decide +kernel
theorem dX12_heads_21 : decode cX12_heads 21 = .ok (.iload 5, 2) := by decide +kernel
theorem dX12_heads_23 : decode cX12_heads 23 = .ok (.iconst 0, 1) := by decide +kernel
theorem dX12_heads_24 : decode cX12_heads 24 = .ok (.iconst 1, 1) := by decide +kernel
theorem dX12_heads_25 : decode cX12_heads 25 = .ok (.invokestatic 32, 3) := by decide +kernel
theorem dX12_heads_28 : decode cX12_heads 28 = .ok (.ifCond .ne 7, 3) := by decide +kernel
theorem dX12_heads_31 : decode cX12_heads 31 = .ok (.ldc2_w 167, 3) := by decide +kernel
theorem dX12_heads_34 : decode cX12_heads 34 = .ok (.lreturn, 1) := by decide +kernel
theorem dX12_heads_35 : decode cX12_heads 35 = .ok (.iload 4, 2) := by decide +kernel
theorem dX12_heads_37 : decode cX12_heads 37 = .ok (.aload_n 0, 1) := by decide +kernel
theorem dX12_heads_38 : decode cX12_heads 38 = .ok (.iload_n 1, 1) := by decide +kernel
theorem dX12_heads_39 : decode cX12_heads 39 = .ok (.iload_n 2, 1) := by decide +kernel
theorem dX12_heads_40 : decode cX12_heads 40 = .ok (.iload_n 3, 1) := by decide +kernel
theorem dX12_heads_41 : decode cX12_heads 41 = .ok (.iconst 1, 1) := by decide +kernel
theorem dX12_heads_42 : decode cX12_heads 42 = .ok (.invokevirtual 169, 3) := by decide +kernel
theorem dX12_heads_45 : decode cX12_heads 45 = .ok (.imul, 1) := by decide +kernel
theorem dX12_heads_46 : decode cX12_heads 46 = .ok (.bipush 100, 2) := by decide +kernel
theorem dX12_heads_48 : decode cX12_heads 48 = .ok (.iload 4, 2) := by decide +kernel
theorem dX12_heads_50 : decode cX12_heads 50 = .ok (.isub, 1) := by decide +kernel
theorem dX12_heads_51 : decode cX12_heads 51 = .ok (.aload_n 0, 1) := by decide +kernel
theorem dX12_heads_52 : decode cX12_heads 52 = .ok (.iload_n 1, 1) := by decide +kernel
theorem dX12_heads_53 : decode cX12_heads 53 = .ok (.iload_n 2, 1) := by decide +kernel
theorem dX12_heads_54 : decode cX12_heads 54 = .ok (.iload_n 3, 1) := by decide +kernel
theorem dX12_heads_55 : decode cX12_heads 55 = .ok (.iconst 0, 1) := by decide +kernel
theorem dX12_heads_56 : decode cX12_heads 56 = .ok (.invokevirtual 169, 3) := by decide +kernel
theorem dX12_heads_59 : decode cX12_heads 59 = .ok (.imul, 1) := by decide +kernel
theorem dX12_heads_60 : decode cX12_heads 60 = .ok (.iadd, 1) := by decide +kernel
theorem dX12_heads_61 : decode cX12_heads 61 = .ok (.i2l, 1) := by decide +kernel
theorem dX12_heads_62 : decode cX12_heads 62 = .ok (.lstore 6, 2) := by decide +kernel
theorem dX12_heads_64 : decode cX12_heads 64 = .ok (.lload 6, 2) := by decide +kernel
theorem dX12_heads_66 : decode cX12_heads 66 = .ok (.ldc2_w 177, 3) := by decide +kernel
theorem dX12_heads_69 : decode cX12_heads 69 = .ok (.iconst 2, 1) := by decide +kernel
theorem dX12_heads_70 : decode cX12_heads 70 = .ok (.aload_n 0, 1) := by decide +kernel
theorem dX12_heads_71 : decode cX12_heads 71 = .ok (.getfield 9, 3) := by decide +kernel
theorem dX12_heads_74 : decode cX12_heads 74 = .ok (.sipush 148, 3) := by decide +kernel
theorem dX12_heads_77 : decode cX12_heads 77 = .ok (.iload_n 2, 1) := by decide +kernel
theorem dX12_heads_78 : decode cX12_heads 78 = .ok (.iadd, 1) := by decide +kernel
theorem dX12_heads_79 : decode cX12_heads 79 = .ok (.iaload, 1) := by decide +kernel
theorem dX12_heads_80 : decode cX12_heads 80 = .ok (.imul, 1) := by decide +kernel
theorem dX12_heads_81 : decode cX12_heads 81 = .ok (.iconst 1, 1) := by decide +kernel
theorem dX12_heads_82 : decode cX12_heads 82 = .ok (.iadd, 1) := by decide +kernel
theorem dX12_heads_83 : decode cX12_heads 83 = .ok (.i2l, 1) := by decide +kernel
theorem dX12_heads_84 : decode cX12_heads 84 = .ok (.lmul, 1) := by decide +kernel
theorem dX12_heads_85 : decode cX12_heads 85 = .ok (.iload 5, 2) := by decide +kernel
theorem dX12_heads_87 : decode cX12_heads 87 = .ok (.invokestatic 173, 3) := by decide +kernel
theorem dX12_heads_90 : decode cX12_heads 90 = .ok (.lreturn, 1) := by decide +kernel
set_option maxRecDepth 20000 in
theorem ggX12_steady_X12_areThere : GoodIn wsX12_steady wsX12_areThere := goodIn_r _ [6, 7, 8, 9, 5, 10, 11, 12, 13, 14, 15, 16, 17, 18, 19, 20, 21, 22, 42, 43, 44, 45, 46, 47, 48, 49, 50, 51, 52, 53, 54, 55, 56, 57, 58, 59, 60, 61, 62, 63] (by decide +kernel) (by decide +kernel)
set_option maxRecDepth 20000 in
theorem gX12_steady_X12_areThere : GoodIn wsX12_steady (wsV RX12 156 RX12 yX12_areThere wsX12_areThere) := goodIn_app (goodIn_of _ (by decide +kernel)) ggX12_steady_X12_areThere
set_option maxRecDepth 20000 in
theorem ggX12_steady_X12_in : GoodIn wsX12_steady wsX12_in := goodIn_r _ [14] (by decide +kernel) (by decide +kernel)
set_option maxRecDepth 20000 in
theorem gX12_steady_X12_in : GoodIn wsX12_steady (va_wsS RX12 32 yX12_in wsX12_in) := goodIn_app (goodIn_of _ (by decide +kernel)) ggX12_steady_X12_in
set_option maxRecDepth 20000 in
theorem ggX12_steady_X12_goes : GoodIn wsX12_steady wsX12_goes := goodIn_r _ [26, 27, 28, 11, 29, 30, 31, 1, 32, 33, 34, 5, 35, 36, 37, 38, 39, 40, 41, 42, 43, 44, 45, 46, 47, 48, 49, 50, 51, 52, 53, 54, 55, 56, 57, 58, 59, 60, 61, 62, 63] (by decide +kernel) (by decide +kernel)
set_option maxRecDepth 20000 in
theorem gX12_steady_X12_goes : GoodIn wsX12_steady (wsV RX12 159 RX12 yX12_goes wsX12_goes) := goodIn_app (goodIn_of _ (by decide +kernel)) ggX12_steady_X12_goes
theorem dX12_steady_0 : decode cX12_steady 0 = .ok (.aload_n 0, 1) := by decide +kernel
theorem dX12_steady_1 : decode cX12_steady 1 = .ok (.iload_n 1, 1) := by decide +kernel
theorem dX12_steady_2 : decode cX12_steady 2 = .ok (.iload_n 2, 1) := by decide +kernel
theorem dX12_steady_3 : decode cX12_steady 3 = .ok (.iload_n 3, 1) := by decide +kernel
theorem dX12_steady_4 : decode cX12_steady 4 = .ok (.invokevirtual 156, 3) := by decide +kernel
theorem dX12_steady_7 : decode cX12_steady 7 = .ok (.ifCond .eq 13, 3) := by decide +kernel
theorem dX12_steady_10 : decode cX12_steady 10 = .ok (.iload 4, 2) := by decide +kernel
theorem dX12_steady_12 : decode cX12_steady 12 = .ok (.iconst 0, 1) := by decide +kernel
theorem dX12_steady_13 : decode cX12_steady 13 = .ok (.iconst 1, 1) := by decide +kernel
theorem dX12_steady_14 : decode cX12_steady 14 = .ok (.invokestatic 32, 3) := by decide +kernel
theorem dX12_steady_17 : decode cX12_steady 17 = .ok (.ifCond .ne 5, 3) := by decide +kernel
theorem dX12_steady_20 : decode cX12_steady 20 = .ok (.iconst (-1), 1) := by decide +kernel
theorem dX12_steady_21 : decode cX12_steady 21 = .ok (.ireturn, 1) := by decide +kernel
theorem dX12_steady_22 : decode cX12_steady 22 = .ok (.iconst 0, 1) := by decide +kernel
theorem dX12_steady_23 : decode cX12_steady 23 = .ok (.istore 5, 2) := by decide +kernel
theorem dX12_steady_25 : decode cX12_steady 25 = .ok (.bipush (-5), 2) := by decide +kernel
theorem dX12_steady_27 : decode cX12_steady 27 = .ok (.istore 6, 2) := by decide +kernel
theorem dX12_steady_29 : decode cX12_steady 29 = .ok (.iconst 0, 1) := by decide +kernel
theorem dX12_steady_30 : decode cX12_steady 30 = .ok (.istore 7, 2) := by decide +kernel
theorem dX12_steady_32 : decode cX12_steady 32 = .ok (.iconst 1, 1) := by decide +kernel
theorem dX12_steady_33 : decode cX12_steady 33 = .ok (.istore 8, 2) := by decide +kernel
theorem dX12_steady_35 : decode cX12_steady 35 = .ok (.iload 8, 2) := by decide +kernel
theorem dX12_steady_37 : decode cX12_steady 37 = .ok (.bipush 40, 2) := by decide +kernel
theorem dX12_steady_39 : decode cX12_steady 39 = .ok (.if_icmp .gt 66, 3) := by decide +kernel
theorem dX12_steady_42 : decode cX12_steady 42 = .ok (.aload_n 0, 1) := by decide +kernel
theorem dX12_steady_43 : decode cX12_steady 43 = .ok (.iload_n 1, 1) := by decide +kernel
theorem dX12_steady_44 : decode cX12_steady 44 = .ok (.iload_n 2, 1) := by decide +kernel
theorem dX12_steady_45 : decode cX12_steady 45 = .ok (.iload_n 3, 1) := by decide +kernel
theorem dX12_steady_46 : decode cX12_steady 46 = .ok (.iload 8, 2) := by decide +kernel
theorem dX12_steady_48 : decode cX12_steady 48 = .ok (.iconst 1, 1) := by decide +kernel
theorem dX12_steady_49 : decode cX12_steady 49 = .ok (.iconst 0, 1) := by decide +kernel
theorem dX12_steady_50 : decode cX12_steady 50 = .ok (.invokevirtual 159, 3) := by decide +kernel
theorem dX12_steady_53 : decode cX12_steady 53 = .ok (.iload 5, 2) := by decide +kernel
theorem dX12_steady_55 : decode cX12_steady 55 = .ok (.aload_n 0, 1) := by decide +kernel
theorem dX12_steady_56 : decode cX12_steady 56 = .ok (.getfield 153, 3) := by decide +kernel
theorem dX12_steady_59 : decode cX12_steady 59 = .ok (.iadd, 1) := by decide +kernel
theorem dX12_steady_60 : decode cX12_steady 60 = .ok (.istore 5, 2) := by decide +kernel
theorem dX12_steady_62 : decode cX12_steady 62 = .ok (.iload 6, 2) := by decide +kernel
theorem dX12_steady_64 : decode cX12_steady 64 = .ok (.bipush (-5), 2) := by decide +kernel
theorem dX12_steady_66 : decode cX12_steady 66 = .ok (.if_icmp .ne 23, 3) := by decide +kernel
theorem dX12_steady_69 : decode cX12_steady 69 = .ok (.iload 8, 2) := by decide +kernel
theorem dX12_steady_71 : decode cX12_steady 71 = .ok (.iconst 1, 1) := by decide +kernel
theorem dX12_steady_72 : decode cX12_steady 72 = .ok (.if_icmp .le 17, 3) := by decide +kernel
theorem dX12_steady_75 : decode cX12_steady 75 = .ok (.aload_n 0, 1) := by decide +kernel
theorem dX12_steady_76 : decode cX12_steady 76 = .ok (.getfield 153, 3) := by decide +kernel
theorem dX12_steady_79 : decode cX12_steady 79 = .ok (.iload 7, 2) := by decide +kernel
theorem dX12_steady_81 : decode cX12_steady 81 = .ok (.if_icmp .eq 8, 3) := by decide +kernel
theorem dX12_steady_84 : decode cX12_steady 84 = .ok (.iload 8, 2) := by decide +kernel
theorem dX12_steady_86 : decode cX12_steady 86 = .ok (.goto 5, 3) := by decide +kernel
theorem dX12_steady_89 : decode cX12_steady 89 = .ok (.iload 6, 2) := by decide +kernel
theorem dX12_steady_91 : decode cX12_steady 91 = .ok (.istore 6, 2) := by decide +kernel
theorem dX12_steady_93 : decode cX12_steady 93 = .ok (.aload_n 0, 1) := by decide +kernel
theorem dX12_steady_94 : decode cX12_steady 94 = .ok (.getfield 153, 3) := by decide +kernel
theorem dX12_steady_97 : decode cX12_steady 97 = .ok (.istore 7, 2) := by decide +kernel
theorem dX12_steady_99 : decode cX12_steady 99 = .ok (.iinc 8 1, 3) := by decide +kernel
theorem dX12_steady_102 : decode cX12_steady 102 = .ok (.goto (-67), 3) := by decide +kernel
theorem dX12_steady_105 : decode cX12_steady 105 = .ok (.iload 4, 2) := by decide +kernel
theorem dX12_steady_107 : decode cX12_steady 107 = .ok (.ifCond .ne 8, 3) := by decide +kernel
theorem dX12_steady_110 : decode cX12_steady 110 = .ok (.iload 5, 2) := by decide +kernel
theorem dX12_steady_112 : decode cX12_steady 112 = .ok (.goto 5, 3) := by decide +kernel
theorem dX12_steady_115 : decode cX12_steady 115 = .ok (.iload 6, 2) := by decide +kernel
theorem dX12_steady_117 : decode cX12_steady 117 = .ok (.ireturn, 1) := by decide +kernel
set_option maxRecDepth 20000 in
theorem ggX12_differ_X12_leansOf : GoodIn wsX12_differ wsX12_leansOf := goodIn_r _ [6, 7, 8, 9, 5, 10, 1, 11, 12, 13, 14, 15, 16, 17, 18, 19, 20, 21, 22, 23, 24, 25, 26, 27, 28, 29, 30, 31, 32] (by decide +kernel) (by decide +kernel)
set_option maxRecDepth 20000 in
theorem gX12_differ_X12_leansOf : GoodIn wsX12_differ (wsV RX12 50 RX12 yX12_leansOf wsX12_leansOf) := goodIn_app (goodIn_of _ (by decide +kernel)) ggX12_differ_X12_leansOf
theorem dX12_differ_0 : decode cX12_differ 0 = .ok (.iconst 0, 1) := by decide +kernel
theorem dX12_differ_1 : decode cX12_differ 1 = .ok (.istore_n 1, 1) := by decide +kernel
theorem dX12_differ_2 : decode cX12_differ 2 = .ok (.iconst 0, 1) := by decide +kernel
theorem dX12_differ_3 : decode cX12_differ 3 = .ok (.istore_n 2, 1) := by decide +kernel
theorem dX12_differ_4 : decode cX12_differ 4 = .ok (.iconst 0, 1) := by decide +kernel
theorem dX12_differ_5 : decode cX12_differ 5 = .ok (.istore_n 3, 1) := by decide +kernel
theorem dX12_differ_6 : decode cX12_differ 6 = .ok (.iconst 0, 1) := by decide +kernel
theorem dX12_differ_7 : decode cX12_differ 7 = .ok (.istore 4, 2) := by decide +kernel
theorem dX12_differ_9 : decode cX12_differ 9 = .ok (.iload 4, 2) := by decide +kernel
theorem dX12_differ_11 : decode cX12_differ 11 = .ok (.aload_n 0, 1) := by decide +kernel
theorem dX12_differ_12 : decode cX12_differ 12 = .ok (.getfield 9, 3) := by decide +kernel
theorem dX12_differ_15 : decode cX12_differ 15 = .ok (.iconst 1, 1) := by decide +kernel
theorem dX12_differ_16 : decode cX12_differ 16 = .ok (.iaload, 1) := by decide +kernel
theorem dX12_differ_17 : decode cX12_differ 17 = .ok (.if_icmp .ge 61, 3) := by decide +kernel
theorem dX12_differ_20 : decode cX12_differ 20 = .ok (.aload_n 0, 1) := by decide +kernel
theorem dX12_differ_21 : decode cX12_differ 21 = .ok (.iload 4, 2) := by decide +kernel
theorem dX12_differ_23 : decode cX12_differ 23 = .ok (.invokevirtual 50, 3) := by decide +kernel
theorem dX12_differ_26 : decode cX12_differ 26 = .ok (.istore 5, 2) := by decide +kernel
theorem dX12_differ_28 : decode cX12_differ 28 = .ok (.iload 5, 2) := by decide +kernel
theorem dX12_differ_30 : decode cX12_differ 30 = .ok (.bipush (-5), 2) := by decide +kernel
theorem dX12_differ_32 : decode cX12_differ 32 = .ok (.if_icmp .eq 40, 3) := by decide +kernel
theorem dX12_differ_35 : decode cX12_differ 35 = .ok (.iload_n 1, 1) := by decide +kernel
theorem dX12_differ_36 : decode cX12_differ 36 = .ok (.ifCond .eq 9, 3) := by decide +kernel
theorem dX12_differ_39 : decode cX12_differ 39 = .ok (.iload 5, 2) := by decide +kernel
theorem dX12_differ_41 : decode cX12_differ 41 = .ok (.iload_n 2, 1) := by decide +kernel
theorem dX12_differ_42 : decode cX12_differ 42 = .ok (.if_icmp .le 8, 3) := by decide +kernel
theorem dX12_differ_45 : decode cX12_differ 45 = .ok (.iload 5, 2) := by decide +kernel
theorem dX12_differ_47 : decode cX12_differ 47 = .ok (.goto 4, 3) := by decide +kernel
theorem dX12_differ_50 : decode cX12_differ 50 = .ok (.iload_n 2, 1) := by decide +kernel
theorem dX12_differ_51 : decode cX12_differ 51 = .ok (.istore_n 2, 1) := by decide +kernel
theorem dX12_differ_52 : decode cX12_differ 52 = .ok (.iload_n 1, 1) := by decide +kernel
theorem dX12_differ_53 : decode cX12_differ 53 = .ok (.ifCond .eq 9, 3) := by decide +kernel
theorem dX12_differ_56 : decode cX12_differ 56 = .ok (.iload 5, 2) := by decide +kernel
theorem dX12_differ_58 : decode cX12_differ 58 = .ok (.iload_n 3, 1) := by decide +kernel
theorem dX12_differ_59 : decode cX12_differ 59 = .ok (.if_icmp .ge 8, 3) := by decide +kernel
theorem dX12_differ_62 : decode cX12_differ 62 = .ok (.iload 5, 2) := by decide +kernel
theorem dX12_differ_64 : decode cX12_differ 64 = .ok (.goto 4, 3) := by decide +kernel
theorem dX12_differ_67 : decode cX12_differ 67 = .ok (.iload_n 3, 1) := by decide +kernel
theorem dX12_differ_68 : decode cX12_differ 68 = .ok (.istore_n 3, 1) := by decide +kernel
theorem dX12_differ_69 : decode cX12_differ 69 = .ok (.iinc 1 1, 3) := by decide +kernel
theorem dX12_differ_72 : decode cX12_differ 72 = .ok (.iinc 4 1, 3) := by decide +kernel
theorem dX12_differ_75 : decode cX12_differ 75 = .ok (.goto (-66), 3) := by decide +kernel
theorem dX12_differ_78 : decode cX12_differ 78 = .ok (.iload_n 1, 1) := by decide +kernel
theorem dX12_differ_79 : decode cX12_differ 79 = .ok (.iconst 2, 1) := by decide +kernel
theorem dX12_differ_80 : decode cX12_differ 80 = .ok (.if_icmp .ge 8, 3) := by decide +kernel
theorem dX12_differ_83 : decode cX12_differ 83 = .ok (.bipush (-5), 2) := by decide +kernel
theorem dX12_differ_85 : decode cX12_differ 85 = .ok (.goto 6, 3) := by decide +kernel
theorem dX12_differ_88 : decode cX12_differ 88 = .ok (.iload_n 2, 1) := by decide +kernel
theorem dX12_differ_89 : decode cX12_differ 89 = .ok (.iload_n 3, 1) := by decide +kernel
theorem dX12_differ_90 : decode cX12_differ 90 = .ok (.isub, 1) := by decide +kernel
theorem dX12_differ_91 : decode cX12_differ 91 = .ok (.ireturn, 1) := by decide +kernel
theorem dX12_choose_0 : decode cX12_choose 0 = .ok (.lconst 1, 1) := by decide +kernel
theorem dX12_choose_1 : decode cX12_choose 1 = .ok (.lstore_n 2, 1) := by decide +kernel
theorem dX12_choose_2 : decode cX12_choose 2 = .ok (.iconst 0, 1) := by decide +kernel
theorem dX12_choose_3 : decode cX12_choose 3 = .ok (.istore 4, 2) := by decide +kernel
theorem dX12_choose_5 : decode cX12_choose 5 = .ok (.iload 4, 2) := by decide +kernel
theorem dX12_choose_7 : decode cX12_choose 7 = .ok (.iload_n 1, 1) := by decide +kernel
theorem dX12_choose_8 : decode cX12_choose 8 = .ok (.if_icmp .ge 23, 3) := by decide +kernel
theorem dX12_choose_11 : decode cX12_choose 11 = .ok (.lload_n 2, 1) := by decide +kernel
theorem dX12_choose_12 : decode cX12_choose 12 = .ok (.iload_n 0, 1) := by decide +kernel
theorem dX12_choose_13 : decode cX12_choose 13 = .ok (.iload 4, 2) := by decide +kernel
theorem dX12_choose_15 : decode cX12_choose 15 = .ok (.isub, 1) := by decide +kernel
theorem dX12_choose_16 : decode cX12_choose 16 = .ok (.i2l, 1) := by decide +kernel
theorem dX12_choose_17 : decode cX12_choose 17 = .ok (.lmul, 1) := by decide +kernel
theorem dX12_choose_18 : decode cX12_choose 18 = .ok (.iload 4, 2) := by decide +kernel
theorem dX12_choose_20 : decode cX12_choose 20 = .ok (.iconst 1, 1) := by decide +kernel
theorem dX12_choose_21 : decode cX12_choose 21 = .ok (.iadd, 1) := by decide +kernel
theorem dX12_choose_22 : decode cX12_choose 22 = .ok (.i2l, 1) := by decide +kernel
theorem dX12_choose_23 : decode cX12_choose 23 = .ok (.ldiv, 1) := by decide +kernel
theorem dX12_choose_24 : decode cX12_choose 24 = .ok (.lstore_n 2, 1) := by decide +kernel
theorem dX12_choose_25 : decode cX12_choose 25 = .ok (.iinc 4 1, 3) := by decide +kernel
theorem dX12_choose_28 : decode cX12_choose 28 = .ok (.goto (-23), 3) := by decide +kernel
theorem dX12_choose_31 : decode cX12_choose 31 = .ok (.lload_n 2, 1) := by decide +kernel
theorem dX12_choose_32 : decode cX12_choose 32 = .ok (.lreturn, 1) := by decide +kernel
set_option maxRecDepth 20000 in
theorem ggX12_far_X12_isHand : GoodIn wsX12_far wsX12_isHand := goodIn_r _ [6, 7, 8, 9, 5, 10, 24, 25, 26, 27, 28, 29, 30, 31, 32, 33, 34, 35, 36, 37, 38, 39, 40, 41, 42, 43, 44, 45] (by decide +kernel) (by decide +kernel)
set_option maxRecDepth 20000 in
theorem gX12_far_X12_isHand : GoodIn wsX12_far (wsV RX12 40 RX12 yX12_isHand wsX12_isHand) := goodIn_app (goodIn_of _ (by decide +kernel)) ggX12_far_X12_isHand
set_option maxRecDepth 20000 in
theorem ggX12_far_X12_in : GoodIn wsX12_far wsX12_in := goodIn_r _ [10] (by decide +kernel) (by decide +kernel)
set_option maxRecDepth 20000 in
theorem gX12_far_X12_in : GoodIn wsX12_far (va_wsS RX12 32 yX12_in wsX12_in) := goodIn_app (goodIn_of _ (by decide +kernel)) ggX12_far_X12_in
set_option maxRecDepth 20000 in
theorem ggX12_far_X12_allOf : GoodIn wsX12_far wsX12_allOf := goodIn_r _ [14, 7, 24, 25, 26, 27, 28, 29, 30, 31, 32, 33, 34, 35, 36, 37, 38, 39, 40, 41, 42, 43, 44, 45] (by decide +kernel) (by decide +kernel)
set_option maxRecDepth 20000 in
theorem gX12_far_X12_allOf : GoodIn wsX12_far (wsV RX12 46 RX12 yX12_allOf wsX12_allOf) := goodIn_app (goodIn_of _ (by decide +kernel)) ggX12_far_X12_allOf
set_option maxRecDepth 20000 in
theorem ggX12_far_X12_choose : GoodIn wsX12_far wsX12_choose := goodIn_r _ [17] (by decide +kernel) (by decide +kernel)
set_option maxRecDepth 20000 in
theorem gX12_far_X12_choose : GoodIn wsX12_far (va_wsS RX12 179 yX12_choose wsX12_choose) := goodIn_app (goodIn_of _ (by decide +kernel)) ggX12_far_X12_choose
set_option maxRecDepth 20000 in
theorem ggX12_far_X12_lowest : GoodIn wsX12_far wsX12_lowest := goodIn_r _ [20, 21, 22, 5, 23] (by decide +kernel) (by decide +kernel)
set_option maxRecDepth 20000 in
theorem gX12_far_X12_lowest : GoodIn wsX12_far (va_wsS RX12 173 yX12_lowest wsX12_lowest) := goodIn_app (goodIn_of _ (by decide +kernel)) ggX12_far_X12_lowest
theorem dX12_far_0 : decode cX12_far 0 = .ok (.aload_n 0, 1) := by decide +kernel
theorem dX12_far_1 : decode cX12_far 1 = .ok (.iload_n 1, 1) := by decide +kernel
theorem dX12_far_2 : decode cX12_far 2 = .ok (.invokevirtual 40, 3) := by decide +kernel
theorem dX12_far_5 : decode cX12_far 5 = .ok (.ifCond .eq 34, 3) := by decide +kernel
theorem dX12_far_8 : decode cX12_far 8 = .ok (.iload_n 2, 1) := by decide +kernel
theorem dX12_far_9 : decode cX12_far 9 = .ok (.iconst 0, 1) := by decide +kernel
theorem dX12_far_10 : decode cX12_far 10 = .ok (.iconst 1, 1) := by decide +kernel
theorem dX12_far_11 : decode cX12_far 11 = .ok (.invokestatic 32, 3) := by decide +kernel
theorem dX12_far_14 : decode cX12_far 14 = .ok (.ifCond .eq 25, 3) := by decide +kernel
theorem dX12_far_17 : decode cX12_far 17 = .ok (.iload_n 3, 1) := by decide +kernel
theorem dX12_far_18 : decode cX12_far 18 = .ok (.iconst 0, 1) := by decide +kernel
theorem dX12_far_19 : decode cX12_far 19 = .ok (.iconst 1, 1) := by decide +kernel
theorem dX12_far_20 : decode cX12_far 20 = .ok (.invokestatic 32, 3) := by decide +kernel
theorem dX12_far_23 : decode cX12_far 23 = .ok (.ifCond .eq 16, 3) := by decide +kernel
theorem dX12_far_26 : decode cX12_far 26 = .ok (.aload_n 0, 1) := by decide +kernel
theorem dX12_far_27 : decode cX12_far 27 = .ok (.sipush 154, 3) := by decide +kernel
theorem dX12_far_30 : decode cX12_far 30 = .ok (.iload_n 1, 1) := by decide +kernel
theorem dX12_far_31 : decode cX12_far 31 = .ok (.invokevirtual 46, 3) := by decide +kernel
theorem dX12_far_34 : decode cX12_far 34 = .ok (.bipush 30, 2) := by decide +kernel
theorem dX12_far_36 : decode cX12_far 36 = .ok (.if_icmp .le 7, 3) := by decide +kernel
theorem dX12_far_39 : decode cX12_far 39 = .ok (.ldc2_w 167, 3) := by decide +kernel
theorem dX12_far_42 : decode cX12_far 42 = .ok (.lreturn, 1) := by decide +kernel
theorem dX12_far_43 : decode cX12_far 43 = .ok (.aload_n 0, 1) := by decide +kernel
theorem dX12_far_44 : decode cX12_far 44 = .ok (.sipush 154, 3) := by decide +kernel
theorem dX12_far_47 : decode cX12_far 47 = .ok (.iload_n 1, 1) := by decide +kernel
theorem dX12_far_48 : decode cX12_far 48 = .ok (.invokevirtual 46, 3) := by decide +kernel
theorem dX12_far_51 : decode cX12_far 51 = .ok (.istore 4, 2) := by decide +kernel
theorem dX12_far_53 : decode cX12_far 53 = .ok (.aload_n 0, 1) := by decide +kernel
theorem dX12_far_54 : decode cX12_far 54 = .ok (.sipush 190, 3) := by decide +kernel
theorem dX12_far_57 : decode cX12_far 57 = .ok (.iload_n 1, 1) := by decide +kernel
theorem dX12_far_58 : decode cX12_far 58 = .ok (.invokevirtual 46, 3) := by decide +kernel
theorem dX12_far_61 : decode cX12_far 61 = .ok (.istore 5, 2) := by decide +kernel
theorem dX12_far_63 : decode cX12_far 63 = .ok (.lconst 0, 1) := by decide +kernel
theorem dX12_far_64 : decode cX12_far 64 = .ok (.lstore 6, 2) := by decide +kernel
theorem dX12_far_66 : decode cX12_far 66 = .ok (.iload 5, 2) := by decide +kernel
theorem dX12_far_68 : decode cX12_far 68 = .ok (.istore 8, 2) := by decide +kernel
theorem dX12_far_70 : decode cX12_far 70 = .ok (.iload 8, 2) := by decide +kernel
theorem dX12_far_72 : decode cX12_far 72 = .ok (.iload_n 2, 1) := by decide +kernel
theorem dX12_far_73 : decode cX12_far 73 = .ok (.ifCond .ne 8, 3) := by decide +kernel
theorem dX12_far_76 : decode cX12_far 76 = .ok (.iload 5, 2) := by decide +kernel
theorem dX12_far_78 : decode cX12_far 78 = .ok (.goto 5, 3) := by decide +kernel
theorem dX12_far_81 : decode cX12_far 81 = .ok (.iload 4, 2) := by decide +kernel
theorem dX12_far_83 : decode cX12_far 83 = .ok (.if_icmp .gt 21, 3) := by decide +kernel
theorem dX12_far_86 : decode cX12_far 86 = .ok (.lload 6, 2) := by decide +kernel
theorem dX12_far_88 : decode cX12_far 88 = .ok (.iload 4, 2) := by decide +kernel
theorem dX12_far_90 : decode cX12_far 90 = .ok (.iload 8, 2) := by decide +kernel
theorem dX12_far_92 : decode cX12_far 92 = .ok (.invokestatic 179, 3) := by decide +kernel
theorem dX12_far_95 : decode cX12_far 95 = .ok (.ladd, 1) := by decide +kernel
theorem dX12_far_96 : decode cX12_far 96 = .ok (.lstore 6, 2) := by decide +kernel
theorem dX12_far_98 : decode cX12_far 98 = .ok (.iinc 8 1, 3) := by decide +kernel
theorem dX12_far_101 : decode cX12_far 101 = .ok (.goto (-31), 3) := by decide +kernel
theorem dX12_far_104 : decode cX12_far 104 = .ok (.lload 6, 2) := by decide +kernel
theorem dX12_far_106 : decode cX12_far 106 = .ok (.lconst 1, 1) := by decide +kernel
theorem dX12_far_107 : decode cX12_far 107 = .ok (.iload 4, 2) := by decide +kernel
theorem dX12_far_109 : decode cX12_far 109 = .ok (.lshl, 1) := by decide +kernel
theorem dX12_far_110 : decode cX12_far 110 = .ok (.iload_n 3, 1) := by decide +kernel
theorem dX12_far_111 : decode cX12_far 111 = .ok (.invokestatic 173, 3) := by decide +kernel
theorem dX12_far_114 : decode cX12_far 114 = .ok (.lreturn, 1) := by decide +kernel
theorem dX12_power_0 : decode cX12_power 0 = .ok (.lconst 1, 1) := by decide +kernel
theorem dX12_power_1 : decode cX12_power 1 = .ok (.lstore_n 3, 1) := by decide +kernel
theorem dX12_power_2 : decode cX12_power 2 = .ok (.iconst 0, 1) := by decide +kernel
theorem dX12_power_3 : decode cX12_power 3 = .ok (.istore 5, 2) := by decide +kernel
theorem dX12_power_5 : decode cX12_power 5 = .ok (.iload 5, 2) := by decide +kernel
theorem dX12_power_7 : decode cX12_power 7 = .ok (.iload_n 2, 1) := by decide +kernel
theorem dX12_power_8 : decode cX12_power 8 = .ok (.if_icmp .ge 13, 3) := by decide +kernel
theorem dX12_power_11 : decode cX12_power 11 = .ok (.lload_n 3, 1) := by decide +kernel
theorem dX12_power_12 : decode cX12_power 12 = .ok (.lload_n 0, 1) := by decide +kernel
theorem dX12_power_13 : decode cX12_power 13 = .ok (.lmul, 1) := by decide +kernel
theorem dX12_power_14 : decode cX12_power 14 = .ok (.lstore_n 3, 1) := by decide +kernel
theorem dX12_power_15 : decode cX12_power 15 = .ok (.iinc 5 1, 3) := by decide +kernel
theorem dX12_power_18 : decode cX12_power 18 = .ok (.goto (-13), 3) := by decide +kernel
theorem dX12_power_21 : decode cX12_power 21 = .ok (.lload_n 3, 1) := by decide +kernel
theorem dX12_power_22 : decode cX12_power 22 = .ok (.lreturn, 1) := by decide +kernel
set_option maxRecDepth 20000 in
theorem ggX12_need_X12_in : GoodIn wsX12_need wsX12_in := goodIn_r _ [6] (by decide +kernel) (by decide +kernel)
set_option maxRecDepth 20000 in
theorem gX12_need_X12_in : GoodIn wsX12_need (va_wsS RX12 32 yX12_in wsX12_in) := goodIn_app (goodIn_of _ (by decide +kernel)) ggX12_need_X12_in
set_option maxRecDepth 20000 in
theorem ggX12_need_X12_choose : GoodIn wsX12_need wsX12_choose := goodIn_r _ [9] (by decide +kernel) (by decide +kernel)
set_option maxRecDepth 20000 in
theorem gX12_need_X12_choose : GoodIn wsX12_need (va_wsS RX12 179 yX12_choose wsX12_choose) := goodIn_app (goodIn_of _ (by decide +kernel)) ggX12_need_X12_choose
set_option maxRecDepth 20000 in
theorem ggX12_need_X12_power : GoodIn wsX12_need wsX12_power := goodIn_r _ [12] (by decide +kernel) (by decide +kernel)
set_option maxRecDepth 20000 in
theorem gX12_need_X12_power : GoodIn wsX12_need (va_wsS RX12 183 yX12_power wsX12_power) := goodIn_app (goodIn_of _ (by decide +kernel)) ggX12_need_X12_power
theorem dX12_need_0 : decode cX12_need 0 = .ok (.iload_n 1, 1) := by decide +kernel
theorem dX12_need_1 : decode cX12_need 1 = .ok (.iconst 0, 1) := by decide +kernel
theorem dX12_need_2 : decode cX12_need 2 = .ok (.bipush 100, 2) := by decide +kernel
theorem dX12_need_4 : decode cX12_need 4 = .ok (.invokestatic 32, 3) := by decide +kernel
theorem dX12_need_7 : decode cX12_need 7 = .ok (.ifCond .eq 23, 3) := by decide +kernel
theorem dX12_need_10 : decode cX12_need 10 = .ok (.iload_n 2, 1) := by decide +kernel
theorem dX12_need_11 : decode cX12_need 11 = .ok (.iconst 0, 1) := by decide +kernel
theorem dX12_need_12 : decode cX12_need 12 = .ok (.bipush 100, 2) := by decide +kernel
theorem dX12_need_14 : decode cX12_need 14 = .ok (.invokestatic 32, 3) := by decide +kernel
theorem dX12_need_17 : decode cX12_need 17 = .ok (.ifCond .eq 13, 3) := by decide +kernel
theorem dX12_need_20 : decode cX12_need 20 = .ok (.iload_n 3, 1) := by decide +kernel
theorem dX12_need_21 : decode cX12_need 21 = .ok (.iconst 0, 1) := by decide +kernel
theorem dX12_need_22 : decode cX12_need 22 = .ok (.bipush 100, 2) := by decide +kernel
theorem dX12_need_24 : decode cX12_need 24 = .ok (.invokestatic 32, 3) := by decide +kernel
theorem dX12_need_27 : decode cX12_need 27 = .ok (.ifCond .ne 6, 3) := by decide +kernel
theorem dX12_need_30 : decode cX12_need 30 = .ok (.bipush (-2), 2) := by decide +kernel
theorem dX12_need_32 : decode cX12_need 32 = .ok (.ireturn, 1) := by decide +kernel
theorem dX12_need_33 : decode cX12_need 33 = .ok (.iconst 1, 1) := by decide +kernel
theorem dX12_need_34 : decode cX12_need 34 = .ok (.istore 4, 2) := by decide +kernel
theorem dX12_need_36 : decode cX12_need 36 = .ok (.iload 4, 2) := by decide +kernel
theorem dX12_need_38 : decode cX12_need 38 = .ok (.bipush 8, 2) := by decide +kernel
theorem dX12_need_40 : decode cX12_need 40 = .ok (.if_icmp .gt 145, 3) := by decide +kernel
theorem dX12_need_43 : decode cX12_need 43 = .ok (.iconst 0, 1) := by decide +kernel
theorem dX12_need_44 : decode cX12_need 44 = .ok (.istore 5, 2) := by decide +kernel
theorem dX12_need_46 : decode cX12_need 46 = .ok (.iload 5, 2) := by decide +kernel
theorem dX12_need_48 : decode cX12_need 48 = .ok (.iload 4, 2) := by decide +kernel
theorem dX12_need_50 : decode cX12_need 50 = .ok (.if_icmp .gt 129, 3) := by decide +kernel
theorem dX12_need_53 : decode cX12_need 53 = .ok (.lconst 0, 1) := by decide +kernel
theorem dX12_need_54 : decode cX12_need 54 = .ok (.lstore 6, 2) := by decide +kernel
theorem dX12_need_56 : decode cX12_need 56 = .ok (.lconst 0, 1) := by decide +kernel
theorem dX12_need_57 : decode cX12_need 57 = .ok (.lstore 8, 2) := by decide +kernel
theorem dX12_need_59 : decode cX12_need 59 = .ok (.iload 5, 2) := by decide +kernel
theorem dX12_need_61 : decode cX12_need 61 = .ok (.istore 10, 2) := by decide +kernel
theorem dX12_need_63 : decode cX12_need 63 = .ok (.iload 10, 2) := by decide +kernel
theorem dX12_need_65 : decode cX12_need 65 = .ok (.iload 4, 2) := by decide +kernel
theorem dX12_need_67 : decode cX12_need 67 = .ok (.if_icmp .gt 55, 3) := by decide +kernel
theorem dX12_need_70 : decode cX12_need 70 = .ok (.lload 6, 2) := by decide +kernel
theorem dX12_need_72 : decode cX12_need 72 = .ok (.iload 4, 2) := by decide +kernel
theorem dX12_need_74 : decode cX12_need 74 = .ok (.iload 10, 2) := by decide +kernel
theorem dX12_need_76 : decode cX12_need 76 = .ok (.invokestatic 179, 3) := by decide +kernel
theorem dX12_need_79 : decode cX12_need 79 = .ok (.iload_n 1, 1) := by decide +kernel
theorem dX12_need_80 : decode cX12_need 80 = .ok (.i2l, 1) := by decide +kernel
theorem dX12_need_81 : decode cX12_need 81 = .ok (.iload 10, 2) := by decide +kernel
theorem dX12_need_83 : decode cX12_need 83 = .ok (.invokestatic 183, 3) := by decide +kernel
theorem dX12_need_86 : decode cX12_need 86 = .ok (.lmul, 1) := by decide +kernel
theorem dX12_need_87 : decode cX12_need 87 = .ok (.bipush 100, 2) := by decide +kernel
theorem dX12_need_89 : decode cX12_need 89 = .ok (.iload_n 1, 1) := by decide +kernel
theorem dX12_need_90 : decode cX12_need 90 = .ok (.isub, 1) := by decide +kernel
theorem dX12_need_91 : decode cX12_need 91 = .ok (.i2l, 1) := by decide +kernel
theorem dX12_need_92 : decode cX12_need 92 = .ok (.iload 4, 2) := by decide +kernel
theorem dX12_need_94 : decode cX12_need 94 = .ok (.iload 10, 2) := by decide +kernel
theorem dX12_need_96 : decode cX12_need 96 = .ok (.isub, 1) := by decide +kernel
theorem dX12_need_97 : decode cX12_need 97 = .ok (.invokestatic 183, 3) := by decide +kernel
theorem dX12_need_100 : decode cX12_need 100 = .ok (.lmul, 1) := by decide +kernel
theorem dX12_need_101 : decode cX12_need 101 = .ok (.ladd, 1) := by decide +kernel
theorem dX12_need_102 : decode cX12_need 102 = .ok (.lstore 6, 2) := by decide +kernel
theorem dX12_need_104 : decode cX12_need 104 = .ok (.lload 8, 2) := by decide +kernel
theorem dX12_need_106 : decode cX12_need 106 = .ok (.iload 4, 2) := by decide +kernel
theorem dX12_need_108 : decode cX12_need 108 = .ok (.iload 10, 2) := by decide +kernel
theorem dX12_need_110 : decode cX12_need 110 = .ok (.invokestatic 179, 3) := by decide +kernel
theorem dX12_need_113 : decode cX12_need 113 = .ok (.ladd, 1) := by decide +kernel
theorem dX12_need_114 : decode cX12_need 114 = .ok (.lstore 8, 2) := by decide +kernel
theorem dX12_need_116 : decode cX12_need 116 = .ok (.iinc 10 1, 3) := by decide +kernel
theorem dX12_need_119 : decode cX12_need 119 = .ok (.goto (-56), 3) := by decide +kernel
theorem dX12_need_122 : decode cX12_need 122 = .ok (.lload 6, 2) := by decide +kernel
theorem dX12_need_124 : decode cX12_need 124 = .ok (.ldc2_w 177, 3) := by decide +kernel
theorem dX12_need_127 : decode cX12_need 127 = .ok (.lmul, 1) := by decide +kernel
theorem dX12_need_128 : decode cX12_need 128 = .ok (.iload_n 2, 1) := by decide +kernel
theorem dX12_need_129 : decode cX12_need 129 = .ok (.i2l, 1) := by decide +kernel
theorem dX12_need_130 : decode cX12_need 130 = .ok (.ldc2_w 177, 3) := by decide +kernel
theorem dX12_need_133 : decode cX12_need 133 = .ok (.iload 4, 2) := by decide +kernel
theorem dX12_need_135 : decode cX12_need 135 = .ok (.invokestatic 183, 3) := by decide +kernel
theorem dX12_need_138 : decode cX12_need 138 = .ok (.lmul, 1) := by decide +kernel
theorem dX12_need_139 : decode cX12_need 139 = .ok (.lcmp, 1) := by decide +kernel
theorem dX12_need_140 : decode cX12_need 140 = .ok (.ifCond .lt 33, 3) := by decide +kernel
theorem dX12_need_143 : decode cX12_need 143 = .ok (.lload 8, 2) := by decide +kernel
theorem dX12_need_145 : decode cX12_need 145 = .ok (.ldc2_w 177, 3) := by decide +kernel
theorem dX12_need_148 : decode cX12_need 148 = .ok (.lmul, 1) := by decide +kernel
theorem dX12_need_149 : decode cX12_need 149 = .ok (.iload_n 3, 1) := by decide +kernel
theorem dX12_need_150 : decode cX12_need 150 = .ok (.i2l, 1) := by decide +kernel
theorem dX12_need_151 : decode cX12_need 151 = .ok (.ldc2_w 187, 3) := by decide +kernel
theorem dX12_need_154 : decode cX12_need 154 = .ok (.iload 4, 2) := by decide +kernel
theorem dX12_need_156 : decode cX12_need 156 = .ok (.invokestatic 183, 3) := by decide +kernel
theorem dX12_need_159 : decode cX12_need 159 = .ok (.lmul, 1) := by decide +kernel
theorem dX12_need_160 : decode cX12_need 160 = .ok (.lcmp, 1) := by decide +kernel
theorem dX12_need_161 : decode cX12_need 161 = .ok (.ifCond .gt 12, 3) := by decide +kernel
theorem dX12_need_164 : decode cX12_need 164 = .ok (.bipush 10, 2) := by decide +kernel
theorem dX12_need_166 : decode cX12_need 166 = .ok (.iload 4, 2) := by decide +kernel
theorem dX12_need_168 : decode cX12_need 168 = .ok (.imul, 1) := by decide +kernel
theorem dX12_need_169 : decode cX12_need 169 = .ok (.iload 5, 2) := by decide +kernel
theorem dX12_need_171 : decode cX12_need 171 = .ok (.iadd, 1) := by decide +kernel
theorem dX12_need_172 : decode cX12_need 172 = .ok (.ireturn, 1) := by decide +kernel
theorem dX12_need_173 : decode cX12_need 173 = .ok (.iinc 5 1, 3) := by decide +kernel
theorem dX12_need_176 : decode cX12_need 176 = .ok (.goto (-130), 3) := by decide +kernel
theorem dX12_need_179 : decode cX12_need 179 = .ok (.iinc 4 1, 3) := by decide +kernel
theorem dX12_need_182 : decode cX12_need 182 = .ok (.goto (-146), 3) := by decide +kernel
theorem dX12_need_185 : decode cX12_need 185 = .ok (.bipush (-5), 2) := by decide +kernel
theorem dX12_need_187 : decode cX12_need 187 = .ok (.ireturn, 1) := by decide +kernel
set_option maxRecDepth 20000 in
theorem ggX12_row_X12_in : GoodIn wsX12_row wsX12_in := goodIn_r _ [5] (by decide +kernel) (by decide +kernel)
set_option maxRecDepth 20000 in
theorem gX12_row_X12_in : GoodIn wsX12_row (va_wsS RX12 32 yX12_in wsX12_in) := goodIn_app (goodIn_of _ (by decide +kernel)) ggX12_row_X12_in
theorem dX12_row_0 : decode cX12_row 0 = .ok (.iload_n 1, 1) := by decide +kernel
theorem dX12_row_1 : decode cX12_row 1 = .ok (.iconst (-1), 1) := by decide +kernel
theorem dX12_row_2 : decode cX12_row 2 = .ok (.if_icmp .ne 12, 3) := by decide +kernel
theorem dX12_row_5 : decode cX12_row 5 = .ok (.aload_n 0, 1) := by decide +kernel
theorem dX12_row_6 : decode cX12_row 6 = .ok (.getfield 9, 3) := by decide +kernel
theorem dX12_row_9 : decode cX12_row 9 = .ok (.iconst 3, 1) := by decide +kernel
theorem dX12_row_10 : decode cX12_row 10 = .ok (.iconst 0, 1) := by decide +kernel
theorem dX12_row_11 : decode cX12_row 11 = .ok (.iastore, 1) := by decide +kernel
theorem dX12_row_12 : decode cX12_row 12 = .ok (.iconst 0, 1) := by decide +kernel
theorem dX12_row_13 : decode cX12_row 13 = .ok (.ireturn, 1) := by decide +kernel
theorem dX12_row_14 : decode cX12_row 14 = .ok (.iload_n 1, 1) := by decide +kernel
theorem dX12_row_15 : decode cX12_row 15 = .ok (.iconst 0, 1) := by decide +kernel
theorem dX12_row_16 : decode cX12_row 16 = .ok (.iconst 1, 1) := by decide +kernel
theorem dX12_row_17 : decode cX12_row 17 = .ok (.invokestatic 32, 3) := by decide +kernel
theorem dX12_row_20 : decode cX12_row 20 = .ok (.ifCond .ne 6, 3) := by decide +kernel
theorem dX12_row_23 : decode cX12_row 23 = .ok (.bipush (-2), 2) := by decide +kernel
theorem dX12_row_25 : decode cX12_row 25 = .ok (.ireturn, 1) := by decide +kernel
theorem dX12_row_26 : decode cX12_row 26 = .ok (.aload_n 0, 1) := by decide +kernel
theorem dX12_row_27 : decode cX12_row 27 = .ok (.getfield 9, 3) := by decide +kernel
theorem dX12_row_30 : decode cX12_row 30 = .ok (.iconst 3, 1) := by decide +kernel
theorem dX12_row_31 : decode cX12_row 31 = .ok (.iaload, 1) := by decide +kernel
theorem dX12_row_32 : decode cX12_row 32 = .ok (.bipush 16, 2) := by decide +kernel
theorem dX12_row_34 : decode cX12_row 34 = .ok (.if_icmp .ne 6, 3) := by decide +kernel
theorem dX12_row_37 : decode cX12_row 37 = .ok (.bipush (-4), 2) := by decide +kernel
theorem dX12_row_39 : decode cX12_row 39 = .ok (.ireturn, 1) := by decide +kernel
theorem dX12_row_40 : decode cX12_row 40 = .ok (.aload_n 0, 1) := by decide +kernel
theorem dX12_row_41 : decode cX12_row 41 = .ok (.getfield 9, 3) := by decide +kernel
theorem dX12_row_44 : decode cX12_row 44 = .ok (.sipush 1378, 3) := by decide +kernel
theorem dX12_row_47 : decode cX12_row 47 = .ok (.aload_n 0, 1) := by decide +kernel
theorem dX12_row_48 : decode cX12_row 48 = .ok (.getfield 9, 3) := by decide +kernel
theorem dX12_row_51 : decode cX12_row 51 = .ok (.iconst 3, 1) := by decide +kernel
theorem dX12_row_52 : decode cX12_row 52 = .ok (.iaload, 1) := by decide +kernel
theorem dX12_row_53 : decode cX12_row 53 = .ok (.iadd, 1) := by decide +kernel
theorem dX12_row_54 : decode cX12_row 54 = .ok (.iload_n 1, 1) := by decide +kernel
theorem dX12_row_55 : decode cX12_row 55 = .ok (.iastore, 1) := by decide +kernel
theorem dX12_row_56 : decode cX12_row 56 = .ok (.aload_n 0, 1) := by decide +kernel
theorem dX12_row_57 : decode cX12_row 57 = .ok (.getfield 9, 3) := by decide +kernel
theorem dX12_row_60 : decode cX12_row 60 = .ok (.iconst 3, 1) := by decide +kernel
theorem dX12_row_61 : decode cX12_row 61 = .ok (.dup2, 1) := by decide +kernel
theorem dX12_row_62 : decode cX12_row 62 = .ok (.iaload, 1) := by decide +kernel
theorem dX12_row_63 : decode cX12_row 63 = .ok (.iconst 1, 1) := by decide +kernel
theorem dX12_row_64 : decode cX12_row 64 = .ok (.iadd, 1) := by decide +kernel
theorem dX12_row_65 : decode cX12_row 65 = .ok (.iastore, 1) := by decide +kernel
theorem dX12_row_66 : decode cX12_row 66 = .ok (.aload_n 0, 1) := by decide +kernel
theorem dX12_row_67 : decode cX12_row 67 = .ok (.getfield 9, 3) := by decide +kernel
theorem dX12_row_70 : decode cX12_row 70 = .ok (.iconst 3, 1) := by decide +kernel
theorem dX12_row_71 : decode cX12_row 71 = .ok (.iaload, 1) := by decide +kernel
theorem dX12_row_72 : decode cX12_row 72 = .ok (.ireturn, 1) := by decide +kernel
set_option maxRecDepth 20000 in
theorem ggX12_runs_X12_in : GoodIn wsX12_runs wsX12_in := goodIn_r _ [5] (by decide +kernel) (by decide +kernel)
set_option maxRecDepth 20000 in
theorem gX12_runs_X12_in : GoodIn wsX12_runs (va_wsS RX12 32 yX12_in wsX12_in) := goodIn_app (goodIn_of _ (by decide +kernel)) ggX12_runs_X12_in
theorem dX12_runs_0 : decode cX12_runs 0 = .ok (.iload_n 1, 1) := by decide +kernel
theorem dX12_runs_1 : decode cX12_runs 1 = .ok (.iconst 0, 1) := by decide +kernel
theorem dX12_runs_2 : decode cX12_runs 2 = .ok (.iconst 1, 1) := by decide +kernel
theorem dX12_runs_3 : decode cX12_runs 3 = .ok (.invokestatic 32, 3) := by decide +kernel
theorem dX12_runs_6 : decode cX12_runs 6 = .ok (.ifCond .ne 5, 3) := by decide +kernel
theorem dX12_runs_9 : decode cX12_runs 9 = .ok (.iconst (-1), 1) := by decide +kernel
theorem dX12_runs_10 : decode cX12_runs 10 = .ok (.ireturn, 1) := by decide +kernel
theorem dX12_runs_11 : decode cX12_runs 11 = .ok (.iconst 0, 1) := by decide +kernel
theorem dX12_runs_12 : decode cX12_runs 12 = .ok (.istore_n 2, 1) := by decide +kernel
theorem dX12_runs_13 : decode cX12_runs 13 = .ok (.iconst 0, 1) := by decide +kernel
theorem dX12_runs_14 : decode cX12_runs 14 = .ok (.istore_n 3, 1) := by decide +kernel
theorem dX12_runs_15 : decode cX12_runs 15 = .ok (.iconst 0, 1) := by decide +kernel
theorem dX12_runs_16 : decode cX12_runs 16 = .ok (.istore 4, 2) := by decide +kernel
theorem dX12_runs_18 : decode cX12_runs 18 = .ok (.iconst 0, 1) := by decide +kernel
theorem dX12_runs_19 : decode cX12_runs 19 = .ok (.istore 5, 2) := by decide +kernel
theorem dX12_runs_21 : decode cX12_runs 21 = .ok (.iload 5, 2) := by decide +kernel
theorem dX12_runs_23 : decode cX12_runs 23 = .ok (.aload_n 0, 1) := by decide +kernel
theorem dX12_runs_24 : decode cX12_runs 24 = .ok (.getfield 9, 3) := by decide +kernel
theorem dX12_runs_27 : decode cX12_runs 27 = .ok (.iconst 3, 1) := by decide +kernel
theorem dX12_runs_28 : decode cX12_runs 28 = .ok (.iaload, 1) := by decide +kernel
theorem dX12_runs_29 : decode cX12_runs 29 = .ok (.if_icmp .ge 88, 3) := by decide +kernel
theorem dX12_runs_32 : decode cX12_runs 32 = .ok (.iload 5, 2) := by decide +kernel
theorem dX12_runs_34 : decode cX12_runs 34 = .ok (.ifCond .le 34, 3) := by decide +kernel
theorem dX12_runs_37 : decode cX12_runs 37 = .ok (.aload_n 0, 1) := by decide +kernel
theorem dX12_runs_38 : decode cX12_runs 38 = .ok (.getfield 9, 3) := by decide +kernel
theorem dX12_runs_41 : decode cX12_runs 41 = .ok (.sipush 1378, 3) := by decide +kernel
theorem dX12_runs_44 : decode cX12_runs 44 = .ok (.iload 5, 2) := by decide +kernel
theorem dX12_runs_46 : decode cX12_runs 46 = .ok (.iadd, 1) := by decide +kernel
theorem dX12_runs_47 : decode cX12_runs 47 = .ok (.iaload, 1) := by decide +kernel
theorem dX12_runs_48 : decode cX12_runs 48 = .ok (.aload_n 0, 1) := by decide +kernel
theorem dX12_runs_49 : decode cX12_runs 49 = .ok (.getfield 9, 3) := by decide +kernel
theorem dX12_runs_52 : decode cX12_runs 52 = .ok (.sipush 1378, 3) := by decide +kernel
theorem dX12_runs_55 : decode cX12_runs 55 = .ok (.iload 5, 2) := by decide +kernel
theorem dX12_runs_57 : decode cX12_runs 57 = .ok (.iadd, 1) := by decide +kernel
theorem dX12_runs_58 : decode cX12_runs 58 = .ok (.iconst 1, 1) := by decide +kernel
theorem dX12_runs_59 : decode cX12_runs 59 = .ok (.isub, 1) := by decide +kernel
theorem dX12_runs_60 : decode cX12_runs 60 = .ok (.iaload, 1) := by decide +kernel
theorem dX12_runs_61 : decode cX12_runs 61 = .ok (.if_icmp .ne 7, 3) := by decide +kernel
theorem dX12_runs_64 : decode cX12_runs 64 = .ok (.iconst 1, 1) := by decide +kernel
theorem dX12_runs_65 : decode cX12_runs 65 = .ok (.goto 4, 3) := by decide +kernel
theorem dX12_runs_68 : decode cX12_runs 68 = .ok (.iconst 0, 1) := by decide +kernel
theorem dX12_runs_69 : decode cX12_runs 69 = .ok (.istore 6, 2) := by decide +kernel
theorem dX12_runs_71 : decode cX12_runs 71 = .ok (.iload_n 2, 1) := by decide +kernel
theorem dX12_runs_72 : decode cX12_runs 72 = .ok (.iload 6, 2) := by decide +kernel
theorem dX12_runs_74 : decode cX12_runs 74 = .ok (.ifCond .eq 7, 3) := by decide +kernel
theorem dX12_runs_77 : decode cX12_runs 77 = .ok (.iconst 0, 1) := by decide +kernel
theorem dX12_runs_78 : decode cX12_runs 78 = .ok (.goto 4, 3) := by decide +kernel
theorem dX12_runs_81 : decode cX12_runs 81 = .ok (.iconst 1, 1) := by decide +kernel
theorem dX12_runs_82 : decode cX12_runs 82 = .ok (.iadd, 1) := by decide +kernel
theorem dX12_runs_83 : decode cX12_runs 83 = .ok (.istore_n 2, 1) := by decide +kernel
theorem dX12_runs_84 : decode cX12_runs 84 = .ok (.iload 6, 2) := by decide +kernel
theorem dX12_runs_86 : decode cX12_runs 86 = .ok (.ifCond .eq 9, 3) := by decide +kernel
theorem dX12_runs_89 : decode cX12_runs 89 = .ok (.iload_n 3, 1) := by decide +kernel
theorem dX12_runs_90 : decode cX12_runs 90 = .ok (.iconst 1, 1) := by decide +kernel
theorem dX12_runs_91 : decode cX12_runs 91 = .ok (.iadd, 1) := by decide +kernel
theorem dX12_runs_92 : decode cX12_runs 92 = .ok (.goto 4, 3) := by decide +kernel
theorem dX12_runs_95 : decode cX12_runs 95 = .ok (.iconst 1, 1) := by decide +kernel
theorem dX12_runs_96 : decode cX12_runs 96 = .ok (.istore_n 3, 1) := by decide +kernel
theorem dX12_runs_97 : decode cX12_runs 97 = .ok (.iload_n 3, 1) := by decide +kernel
theorem dX12_runs_98 : decode cX12_runs 98 = .ok (.iload 4, 2) := by decide +kernel
theorem dX12_runs_100 : decode cX12_runs 100 = .ok (.if_icmp .le 7, 3) := by decide +kernel
theorem dX12_runs_103 : decode cX12_runs 103 = .ok (.iload_n 3, 1) := by decide +kernel
theorem dX12_runs_104 : decode cX12_runs 104 = .ok (.goto 5, 3) := by decide +kernel
theorem dX12_runs_107 : decode cX12_runs 107 = .ok (.iload 4, 2) := by decide +kernel
theorem dX12_runs_109 : decode cX12_runs 109 = .ok (.istore 4, 2) := by decide +kernel
theorem dX12_runs_111 : decode cX12_runs 111 = .ok (.iinc 5 1, 3) := by decide +kernel
theorem dX12_runs_114 : decode cX12_runs 114 = .ok (.goto (-93), 3) := by decide +kernel
theorem dX12_runs_117 : decode cX12_runs 117 = .ok (.iload_n 1, 1) := by decide +kernel
theorem dX12_runs_118 : decode cX12_runs 118 = .ok (.ifCond .ne 7, 3) := by decide +kernel
theorem dX12_runs_121 : decode cX12_runs 121 = .ok (.iload_n 2, 1) := by decide +kernel
theorem dX12_runs_122 : decode cX12_runs 122 = .ok (.goto 5, 3) := by decide +kernel
theorem dX12_runs_125 : decode cX12_runs 125 = .ok (.iload 4, 2) := by decide +kernel
theorem dX12_runs_127 : decode cX12_runs 127 = .ok (.ireturn, 1) := by decide +kernel
set_option maxRecDepth 20000 in
theorem ggX12_made_X12_in : GoodIn wsX12_made wsX12_in := goodIn_r _ [6] (by decide +kernel) (by decide +kernel)
set_option maxRecDepth 20000 in
theorem gX12_made_X12_in : GoodIn wsX12_made (va_wsS RX12 32 yX12_in wsX12_in) := goodIn_app (goodIn_of _ (by decide +kernel)) ggX12_made_X12_in
set_option maxRecDepth 20000 in
theorem ggX12_made_X12_runs : GoodIn wsX12_made wsX12_runs := goodIn_r _ [10, 1, 3, 4, 5, 6, 20, 21, 22, 23, 24, 25, 26, 27, 28, 29, 30, 31, 32, 33, 34, 35, 36, 37, 38, 39, 40, 41] (by decide +kernel) (by decide +kernel)
set_option maxRecDepth 20000 in
theorem gX12_made_X12_runs : GoodIn wsX12_made (wsV RX12 189 RX12 yX12_runs wsX12_runs) := goodIn_app (goodIn_of _ (by decide +kernel)) ggX12_made_X12_runs
set_option maxRecDepth 20000 in
theorem ggX12_made_X12_choose : GoodIn wsX12_made wsX12_choose := goodIn_r _ [13] (by decide +kernel) (by decide +kernel)
set_option maxRecDepth 20000 in
theorem gX12_made_X12_choose : GoodIn wsX12_made (va_wsS RX12 179 yX12_choose wsX12_choose) := goodIn_app (goodIn_of _ (by decide +kernel)) ggX12_made_X12_choose
set_option maxRecDepth 20000 in
theorem ggX12_made_X12_lowest : GoodIn wsX12_made wsX12_lowest := goodIn_r _ [16, 17, 18, 5, 19] (by decide +kernel) (by decide +kernel)
set_option maxRecDepth 20000 in
theorem gX12_made_X12_lowest : GoodIn wsX12_made (va_wsS RX12 173 yX12_lowest wsX12_lowest) := goodIn_app (goodIn_of _ (by decide +kernel)) ggX12_made_X12_lowest
theorem dX12_made_0 : decode cX12_made 0 = .ok (.iload_n 1, 1) := by decide +kernel
theorem dX12_made_1 : decode cX12_made 1 = .ok (.iconst 0, 1) := by decide +kernel
theorem dX12_made_2 : decode cX12_made 2 = .ok (.iconst 1, 1) := by decide +kernel
theorem dX12_made_3 : decode cX12_made 3 = .ok (.invokestatic 32, 3) := by decide +kernel
theorem dX12_made_6 : decode cX12_made 6 = .ok (.ifCond .ne 5, 3) := by decide +kernel
theorem dX12_made_9 : decode cX12_made 9 = .ok (.iconst (-1), 1) := by decide +kernel
theorem dX12_made_10 : decode cX12_made 10 = .ok (.ireturn, 1) := by decide +kernel
theorem dX12_made_11 : decode cX12_made 11 = .ok (.aload_n 0, 1) := by decide +kernel
theorem dX12_made_12 : decode cX12_made 12 = .ok (.getfield 9, 3) := by decide +kernel
theorem dX12_made_15 : decode cX12_made 15 = .ok (.iconst 3, 1) := by decide +kernel
theorem dX12_made_16 : decode cX12_made 16 = .ok (.iaload, 1) := by decide +kernel
theorem dX12_made_17 : decode cX12_made 17 = .ok (.istore_n 2, 1) := by decide +kernel
theorem dX12_made_18 : decode cX12_made 18 = .ok (.iload_n 2, 1) := by decide +kernel
theorem dX12_made_19 : decode cX12_made 19 = .ok (.ifCond .ne 5, 3) := by decide +kernel
theorem dX12_made_22 : decode cX12_made 22 = .ok (.iconst 1, 1) := by decide +kernel
theorem dX12_made_23 : decode cX12_made 23 = .ok (.ireturn, 1) := by decide +kernel
theorem dX12_made_24 : decode cX12_made 24 = .ok (.aload_n 0, 1) := by decide +kernel
theorem dX12_made_25 : decode cX12_made 25 = .ok (.iconst 0, 1) := by decide +kernel
theorem dX12_made_26 : decode cX12_made 26 = .ok (.invokevirtual 189, 3) := by decide +kernel
theorem dX12_made_29 : decode cX12_made 29 = .ok (.istore_n 3, 1) := by decide +kernel
theorem dX12_made_30 : decode cX12_made 30 = .ok (.lconst 0, 1) := by decide +kernel
theorem dX12_made_31 : decode cX12_made 31 = .ok (.lstore 4, 2) := by decide +kernel
theorem dX12_made_33 : decode cX12_made 33 = .ok (.iconst 1, 1) := by decide +kernel
theorem dX12_made_34 : decode cX12_made 34 = .ok (.istore 6, 2) := by decide +kernel
theorem dX12_made_36 : decode cX12_made 36 = .ok (.iload 6, 2) := by decide +kernel
theorem dX12_made_38 : decode cX12_made 38 = .ok (.iload_n 3, 1) := by decide +kernel
theorem dX12_made_39 : decode cX12_made 39 = .ok (.if_icmp .gt 28, 3) := by decide +kernel
theorem dX12_made_42 : decode cX12_made 42 = .ok (.lload 4, 2) := by decide +kernel
theorem dX12_made_44 : decode cX12_made 44 = .ok (.ldc2_w 187, 3) := by decide +kernel
theorem dX12_made_47 : decode cX12_made 47 = .ok (.iload_n 2, 1) := by decide +kernel
theorem dX12_made_48 : decode cX12_made 48 = .ok (.iconst 1, 1) := by decide +kernel
theorem dX12_made_49 : decode cX12_made 49 = .ok (.isub, 1) := by decide +kernel
theorem dX12_made_50 : decode cX12_made 50 = .ok (.iload 6, 2) := by decide +kernel
theorem dX12_made_52 : decode cX12_made 52 = .ok (.iconst 1, 1) := by decide +kernel
theorem dX12_made_53 : decode cX12_made 53 = .ok (.isub, 1) := by decide +kernel
theorem dX12_made_54 : decode cX12_made 54 = .ok (.invokestatic 179, 3) := by decide +kernel
theorem dX12_made_57 : decode cX12_made 57 = .ok (.lmul, 1) := by decide +kernel
theorem dX12_made_58 : decode cX12_made 58 = .ok (.ladd, 1) := by decide +kernel
theorem dX12_made_59 : decode cX12_made 59 = .ok (.lstore 4, 2) := by decide +kernel
theorem dX12_made_61 : decode cX12_made 61 = .ok (.iinc 6 1, 3) := by decide +kernel
theorem dX12_made_64 : decode cX12_made 64 = .ok (.goto (-28), 3) := by decide +kernel
theorem dX12_made_67 : decode cX12_made 67 = .ok (.lload 4, 2) := by decide +kernel
theorem dX12_made_69 : decode cX12_made 69 = .ok (.lconst 1, 1) := by decide +kernel
theorem dX12_made_70 : decode cX12_made 70 = .ok (.iload_n 2, 1) := by decide +kernel
theorem dX12_made_71 : decode cX12_made 71 = .ok (.lshl, 1) := by decide +kernel
theorem dX12_made_72 : decode cX12_made 72 = .ok (.iload_n 1, 1) := by decide +kernel
theorem dX12_made_73 : decode cX12_made 73 = .ok (.invokestatic 173, 3) := by decide +kernel
theorem dX12_made_76 : decode cX12_made 76 = .ok (.l2i, 1) := by decide +kernel
theorem dX12_made_77 : decode cX12_made 77 = .ok (.ireturn, 1) := by decide +kernel
set_option maxRecDepth 20000 in
theorem ggX12_worth_X12_areThere : GoodIn wsX12_worth wsX12_areThere := goodIn_r _ [6, 7, 8, 9, 5, 10, 1, 11, 12, 13, 14, 15, 16, 17, 18, 19, 20, 21, 46, 47, 48, 49, 50, 51, 52, 53, 54, 55, 56, 57, 58, 59, 60, 61, 62, 63, 64, 65, 66, 67] (by decide +kernel) (by decide +kernel)
set_option maxRecDepth 20000 in
theorem gX12_worth_X12_areThere : GoodIn wsX12_worth (wsV RX12 156 RX12 yX12_areThere wsX12_areThere) := goodIn_app (goodIn_of _ (by decide +kernel)) ggX12_worth_X12_areThere
set_option maxRecDepth 20000 in
theorem ggX12_worth_X12_in : GoodIn wsX12_worth wsX12_in := goodIn_r _ [13] (by decide +kernel) (by decide +kernel)
set_option maxRecDepth 20000 in
theorem gX12_worth_X12_in : GoodIn wsX12_worth (va_wsS RX12 32 yX12_in wsX12_in) := goodIn_app (goodIn_of _ (by decide +kernel)) ggX12_worth_X12_in
set_option maxRecDepth 20000 in
theorem ggX12_worth_X12_headsFrom : GoodIn wsX12_worth wsX12_headsFrom := goodIn_r _ [25, 1, 26, 27, 28, 29, 5, 30, 31, 32, 33, 34, 35, 36, 37, 38, 39, 40, 41, 42, 43, 44, 45, 46, 47, 48, 49, 50, 51, 52, 53, 54, 55, 56, 57, 58, 59, 60, 61, 62, 63, 64, 65, 66, 67] (by decide +kernel) (by decide +kernel)
set_option maxRecDepth 20000 in
theorem gX12_worth_X12_headsFrom : GoodIn wsX12_worth (wsV RX12 169 RX12 yX12_headsFrom wsX12_headsFrom) := goodIn_app (goodIn_of _ (by decide +kernel)) ggX12_worth_X12_headsFrom
theorem dX12_worth_0 : decode cX12_worth 0 = .ok (.aload_n 0, 1) := by decide +kernel
theorem dX12_worth_1 : decode cX12_worth 1 = .ok (.iload_n 1, 1) := by decide +kernel
theorem dX12_worth_2 : decode cX12_worth 2 = .ok (.iload_n 2, 1) := by decide +kernel
theorem dX12_worth_3 : decode cX12_worth 3 = .ok (.iload_n 3, 1) := by decide +kernel
theorem dX12_worth_4 : decode cX12_worth 4 = .ok (.invokevirtual 156, 3) := by decide +kernel
theorem dX12_worth_7 : decode cX12_worth 7 = .ok (.ifCond .ne 7, 3) := by decide +kernel
theorem dX12_worth_10 : decode cX12_worth 10 = .ok (.sipush (-1001), 3) := by decide +kernel
theorem dX12_worth_13 : decode cX12_worth 13 = .ok (.ireturn, 1) := by decide +kernel
theorem dX12_worth_14 : decode cX12_worth 14 = .ok (.iload 4, 2) := by decide +kernel
theorem dX12_worth_16 : decode cX12_worth 16 = .ok (.iconst 0, 1) := by decide +kernel
theorem dX12_worth_17 : decode cX12_worth 17 = .ok (.bipush 100, 2) := by decide +kernel
theorem dX12_worth_19 : decode cX12_worth 19 = .ok (.invokestatic 32, 3) := by decide +kernel
theorem dX12_worth_22 : decode cX12_worth 22 = .ok (.ifCond .ne 7, 3) := by decide +kernel
theorem dX12_worth_25 : decode cX12_worth 25 = .ok (.sipush (-1002), 3) := by decide +kernel
theorem dX12_worth_28 : decode cX12_worth 28 = .ok (.ireturn, 1) := by decide +kernel
theorem dX12_worth_29 : decode cX12_worth 29 = .ok (.iconst 2, 1) := by decide +kernel
theorem dX12_worth_30 : decode cX12_worth 30 = .ok (.aload_n 0, 1) := by decide +kernel
theorem dX12_worth_31 : decode cX12_worth 31 = .ok (.getfield 9, 3) := by decide +kernel
theorem dX12_worth_34 : decode cX12_worth 34 = .ok (.sipush 148, 3) := by decide +kernel
theorem dX12_worth_37 : decode cX12_worth 37 = .ok (.iload_n 2, 1) := by decide +kernel
theorem dX12_worth_38 : decode cX12_worth 38 = .ok (.iadd, 1) := by decide +kernel
theorem dX12_worth_39 : decode cX12_worth 39 = .ok (.iaload, 1) := by decide +kernel
theorem dX12_worth_40 : decode cX12_worth 40 = .ok (.imul, 1) := by decide +kernel
theorem dX12_worth_41 : decode cX12_worth 41 = .ok (.iconst 1, 1) := by decide +kernel
theorem dX12_worth_42 : decode cX12_worth 42 = .ok (.iadd, 1) := by decide +kernel
theorem dX12_worth_43 : decode cX12_worth 43 = .ok (.istore 5, 2) := by decide +kernel
theorem dX12_worth_45 : decode cX12_worth 45 = .ok (.aload_n 0, 1) := by decide +kernel
theorem dX12_worth_46 : decode cX12_worth 46 = .ok (.iload_n 1, 1) := by decide +kernel
theorem dX12_worth_47 : decode cX12_worth 47 = .ok (.iload_n 2, 1) := by decide +kernel
theorem dX12_worth_48 : decode cX12_worth 48 = .ok (.iload_n 3, 1) := by decide +kernel
theorem dX12_worth_49 : decode cX12_worth 49 = .ok (.iconst 1, 1) := by decide +kernel
theorem dX12_worth_50 : decode cX12_worth 50 = .ok (.invokevirtual 169, 3) := by decide +kernel
theorem dX12_worth_53 : decode cX12_worth 53 = .ok (.istore 6, 2) := by decide +kernel
theorem dX12_worth_55 : decode cX12_worth 55 = .ok (.iload 6, 2) := by decide +kernel
theorem dX12_worth_57 : decode cX12_worth 57 = .ok (.iload 5, 2) := by decide +kernel
theorem dX12_worth_59 : decode cX12_worth 59 = .ok (.iload 6, 2) := by decide +kernel
theorem dX12_worth_61 : decode cX12_worth 61 = .ok (.isub, 1) := by decide +kernel
theorem dX12_worth_62 : decode cX12_worth 62 = .ok (.if_icmp .le 8, 3) := by decide +kernel
theorem dX12_worth_65 : decode cX12_worth 65 = .ok (.iload 6, 2) := by decide +kernel
theorem dX12_worth_67 : decode cX12_worth 67 = .ok (.goto 8, 3) := by decide +kernel
theorem dX12_worth_70 : decode cX12_worth 70 = .ok (.iload 5, 2) := by decide +kernel
theorem dX12_worth_72 : decode cX12_worth 72 = .ok (.iload 6, 2) := by decide +kernel
theorem dX12_worth_74 : decode cX12_worth 74 = .ok (.isub, 1) := by decide +kernel
theorem dX12_worth_75 : decode cX12_worth 75 = .ok (.istore 7, 2) := by decide +kernel
theorem dX12_worth_77 : decode cX12_worth 77 = .ok (.bipush 100, 2) := by decide +kernel
theorem dX12_worth_79 : decode cX12_worth 79 = .ok (.iload 4, 2) := by decide +kernel
theorem dX12_worth_81 : decode cX12_worth 81 = .ok (.isub, 1) := by decide +kernel
theorem dX12_worth_82 : decode cX12_worth 82 = .ok (.iload 7, 2) := by decide +kernel
theorem dX12_worth_84 : decode cX12_worth 84 = .ok (.imul, 1) := by decide +kernel
theorem dX12_worth_85 : decode cX12_worth 85 = .ok (.iload 4, 2) := by decide +kernel
theorem dX12_worth_87 : decode cX12_worth 87 = .ok (.iload 5, 2) := by decide +kernel
theorem dX12_worth_89 : decode cX12_worth 89 = .ok (.iload 7, 2) := by decide +kernel
theorem dX12_worth_91 : decode cX12_worth 91 = .ok (.isub, 1) := by decide +kernel
theorem dX12_worth_92 : decode cX12_worth 92 = .ok (.imul, 1) := by decide +kernel
theorem dX12_worth_93 : decode cX12_worth 93 = .ok (.iadd, 1) := by decide +kernel
theorem dX12_worth_94 : decode cX12_worth 94 = .ok (.istore 8, 2) := by decide +kernel
theorem dX12_worth_96 : decode cX12_worth 96 = .ok (.sipush 1000, 3) := by decide +kernel
theorem dX12_worth_99 : decode cX12_worth 99 = .ok (.iconst 2, 1) := by decide +kernel
theorem dX12_worth_100 : decode cX12_worth 100 = .ok (.iload 8, 2) := by decide +kernel
theorem dX12_worth_102 : decode cX12_worth 102 = .ok (.imul, 1) := by decide +kernel
theorem dX12_worth_103 : decode cX12_worth 103 = .ok (.bipush 100, 2) := by decide +kernel
theorem dX12_worth_105 : decode cX12_worth 105 = .ok (.iload 5, 2) := by decide +kernel
theorem dX12_worth_107 : decode cX12_worth 107 = .ok (.imul, 1) := by decide +kernel
theorem dX12_worth_108 : decode cX12_worth 108 = .ok (.isub, 1) := by decide +kernel
theorem dX12_worth_109 : decode cX12_worth 109 = .ok (.imul, 1) := by decide +kernel
theorem dX12_worth_110 : decode cX12_worth 110 = .ok (.bipush 100, 2) := by decide +kernel
theorem dX12_worth_112 : decode cX12_worth 112 = .ok (.iload 5, 2) := by decide +kernel
theorem dX12_worth_114 : decode cX12_worth 114 = .ok (.imul, 1) := by decide +kernel
theorem dX12_worth_115 : decode cX12_worth 115 = .ok (.idiv, 1) := by decide +kernel
theorem dX12_worth_116 : decode cX12_worth 116 = .ok (.ireturn, 1) := by decide +kernel
set_option maxRecDepth 20000 in
theorem ggX12_fair_X12_in : GoodIn wsX12_fair wsX12_in := goodIn_r _ [5] (by decide +kernel) (by decide +kernel)
set_option maxRecDepth 20000 in
theorem gX12_fair_X12_in : GoodIn wsX12_fair (va_wsS RX12 32 yX12_in wsX12_in) := goodIn_app (goodIn_of _ (by decide +kernel)) ggX12_fair_X12_in
set_option maxRecDepth 20000 in
theorem ggX12_fair_X12_lowest : GoodIn wsX12_fair wsX12_lowest := goodIn_r _ [8, 9, 10, 4, 11] (by decide +kernel) (by decide +kernel)
set_option maxRecDepth 20000 in
theorem gX12_fair_X12_lowest : GoodIn wsX12_fair (va_wsS RX12 173 yX12_lowest wsX12_lowest) := goodIn_app (goodIn_of _ (by decide +kernel)) ggX12_fair_X12_lowest
theorem dX12_fair_0 : decode cX12_fair 0 = .ok (.iload_n 2, 1) := by decide +kernel
theorem dX12_fair_1 : decode cX12_fair 1 = .ok (.iconst 0, 1) := by decide +kernel
theorem dX12_fair_2 : decode cX12_fair 2 = .ok (.iconst 1, 1) := by decide +kernel
theorem dX12_fair_3 : decode cX12_fair 3 = .ok (.invokestatic 32, 3) := by decide +kernel
theorem dX12_fair_6 : decode cX12_fair 6 = .ok (.ifCond .ne 5, 3) := by decide +kernel
theorem dX12_fair_9 : decode cX12_fair 9 = .ok (.iconst (-1), 1) := by decide +kernel
theorem dX12_fair_10 : decode cX12_fair 10 = .ok (.ireturn, 1) := by decide +kernel
theorem dX12_fair_11 : decode cX12_fair 11 = .ok (.iload_n 1, 1) := by decide +kernel
theorem dX12_fair_12 : decode cX12_fair 12 = .ok (.iconst 1, 1) := by decide +kernel
theorem dX12_fair_13 : decode cX12_fair 13 = .ok (.bipush 99, 2) := by decide +kernel
theorem dX12_fair_15 : decode cX12_fair 15 = .ok (.invokestatic 32, 3) := by decide +kernel
theorem dX12_fair_18 : decode cX12_fair 18 = .ok (.ifCond .eq 21, 3) := by decide +kernel
theorem dX12_fair_21 : decode cX12_fair 21 = .ok (.ldc2_w 192, 3) := by decide +kernel
theorem dX12_fair_24 : decode cX12_fair 24 = .ok (.iload_n 1, 1) := by decide +kernel
theorem dX12_fair_25 : decode cX12_fair 25 = .ok (.bipush 100, 2) := by decide +kernel
theorem dX12_fair_27 : decode cX12_fair 27 = .ok (.iload_n 1, 1) := by decide +kernel
theorem dX12_fair_28 : decode cX12_fair 28 = .ok (.isub, 1) := by decide +kernel
theorem dX12_fair_29 : decode cX12_fair 29 = .ok (.imul, 1) := by decide +kernel
theorem dX12_fair_30 : decode cX12_fair 30 = .ok (.i2l, 1) := by decide +kernel
theorem dX12_fair_31 : decode cX12_fair 31 = .ok (.iload_n 2, 1) := by decide +kernel
theorem dX12_fair_32 : decode cX12_fair 32 = .ok (.invokestatic 173, 3) := by decide +kernel
theorem dX12_fair_35 : decode cX12_fair 35 = .ok (.l2i, 1) := by decide +kernel
theorem dX12_fair_36 : decode cX12_fair 36 = .ok (.goto 5, 3) := by decide +kernel
theorem dX12_fair_39 : decode cX12_fair 39 = .ok (.bipush (-2), 2) := by decide +kernel
theorem dX12_fair_41 : decode cX12_fair 41 = .ok (.ireturn, 1) := by decide +kernel
set_option maxRecDepth 20000 in
theorem ggX12_learns_X12_isHand : GoodIn wsX12_learns wsX12_isHand := goodIn_r _ [6, 1, 7, 8, 5, 9, 14, 15, 16, 17, 18, 19, 20, 21, 22, 23, 24, 25, 26, 27, 28, 29, 30, 31, 32, 33, 34, 35] (by decide +kernel) (by decide +kernel)
set_option maxRecDepth 20000 in
theorem gX12_learns_X12_isHand : GoodIn wsX12_learns (wsV RX12 40 RX12 yX12_isHand wsX12_isHand) := goodIn_app (goodIn_of _ (by decide +kernel)) ggX12_learns_X12_isHand
set_option maxRecDepth 20000 in
theorem ggX12_learns_X12_in : GoodIn wsX12_learns wsX12_in := goodIn_r _ [9] (by decide +kernel) (by decide +kernel)
set_option maxRecDepth 20000 in
theorem gX12_learns_X12_in : GoodIn wsX12_learns (va_wsS RX12 32 yX12_in wsX12_in) := goodIn_app (goodIn_of _ (by decide +kernel)) ggX12_learns_X12_in
set_option maxRecDepth 20000 in
theorem ggX12_learns_X12_allOf : GoodIn wsX12_learns wsX12_allOf := goodIn_r _ [13, 1, 14, 15, 16, 17, 18, 19, 20, 21, 22, 23, 24, 25, 26, 27, 28, 29, 30, 31, 32, 33, 34, 35] (by decide +kernel) (by decide +kernel)
set_option maxRecDepth 20000 in
theorem gX12_learns_X12_allOf : GoodIn wsX12_learns (wsV RX12 46 RX12 yX12_allOf wsX12_allOf) := goodIn_app (goodIn_of _ (by decide +kernel)) ggX12_learns_X12_allOf
theorem dX12_learns_0 : decode cX12_learns 0 = .ok (.aload_n 0, 1) := by decide +kernel
theorem dX12_learns_1 : decode cX12_learns 1 = .ok (.iload_n 1, 1) := by decide +kernel
theorem dX12_learns_2 : decode cX12_learns 2 = .ok (.invokevirtual 40, 3) := by decide +kernel
theorem dX12_learns_5 : decode cX12_learns 5 = .ok (.ifCond .eq 13, 3) := by decide +kernel
theorem dX12_learns_8 : decode cX12_learns 8 = .ok (.iload 4, 2) := by decide +kernel
theorem dX12_learns_10 : decode cX12_learns 10 = .ok (.iconst 0, 1) := by decide +kernel
theorem dX12_learns_11 : decode cX12_learns 11 = .ok (.iconst 1, 1) := by decide +kernel
theorem dX12_learns_12 : decode cX12_learns 12 = .ok (.invokestatic 32, 3) := by decide +kernel
theorem dX12_learns_15 : decode cX12_learns 15 = .ok (.ifCond .ne 5, 3) := by decide +kernel
theorem dX12_learns_18 : decode cX12_learns 18 = .ok (.iconst (-1), 1) := by decide +kernel
theorem dX12_learns_19 : decode cX12_learns 19 = .ok (.ireturn, 1) := by decide +kernel
theorem dX12_learns_20 : decode cX12_learns 20 = .ok (.iload_n 2, 1) := by decide +kernel
theorem dX12_learns_21 : decode cX12_learns 21 = .ok (.iconst 0, 1) := by decide +kernel
theorem dX12_learns_22 : decode cX12_learns 22 = .ok (.bipush 9, 2) := by decide +kernel
theorem dX12_learns_24 : decode cX12_learns 24 = .ok (.invokestatic 32, 3) := by decide +kernel
theorem dX12_learns_27 : decode cX12_learns 27 = .ok (.ifCond .eq 13, 3) := by decide +kernel
theorem dX12_learns_30 : decode cX12_learns 30 = .ok (.iload_n 3, 1) := by decide +kernel
theorem dX12_learns_31 : decode cX12_learns 31 = .ok (.iconst 0, 1) := by decide +kernel
theorem dX12_learns_32 : decode cX12_learns 32 = .ok (.bipush 9, 2) := by decide +kernel
theorem dX12_learns_34 : decode cX12_learns 34 = .ok (.invokestatic 32, 3) := by decide +kernel
theorem dX12_learns_37 : decode cX12_learns 37 = .ok (.ifCond .ne 6, 3) := by decide +kernel
theorem dX12_learns_40 : decode cX12_learns 40 = .ok (.bipush (-2), 2) := by decide +kernel
theorem dX12_learns_42 : decode cX12_learns 42 = .ok (.ireturn, 1) := by decide +kernel
theorem dX12_learns_43 : decode cX12_learns 43 = .ok (.aload_n 0, 1) := by decide +kernel
theorem dX12_learns_44 : decode cX12_learns 44 = .ok (.sipush 154, 3) := by decide +kernel
theorem dX12_learns_47 : decode cX12_learns 47 = .ok (.iload_n 1, 1) := by decide +kernel
theorem dX12_learns_48 : decode cX12_learns 48 = .ok (.invokevirtual 46, 3) := by decide +kernel
theorem dX12_learns_51 : decode cX12_learns 51 = .ok (.bipush 100, 2) := by decide +kernel
theorem dX12_learns_53 : decode cX12_learns 53 = .ok (.idiv, 1) := by decide +kernel
theorem dX12_learns_54 : decode cX12_learns 54 = .ok (.istore 5, 2) := by decide +kernel
theorem dX12_learns_56 : decode cX12_learns 56 = .ok (.aload_n 0, 1) := by decide +kernel
theorem dX12_learns_57 : decode cX12_learns 57 = .ok (.getfield 9, 3) := by decide +kernel
theorem dX12_learns_60 : decode cX12_learns 60 = .ok (.sipush 142, 3) := by decide +kernel
theorem dX12_learns_63 : decode cX12_learns 63 = .ok (.iload_n 1, 1) := by decide +kernel
theorem dX12_learns_64 : decode cX12_learns 64 = .ok (.iadd, 1) := by decide +kernel
theorem dX12_learns_65 : decode cX12_learns 65 = .ok (.iaload, 1) := by decide +kernel
theorem dX12_learns_66 : decode cX12_learns 66 = .ok (.iload_n 2, 1) := by decide +kernel
theorem dX12_learns_67 : decode cX12_learns 67 = .ok (.iload 5, 2) := by decide +kernel
theorem dX12_learns_69 : decode cX12_learns 69 = .ok (.imul, 1) := by decide +kernel
theorem dX12_learns_70 : decode cX12_learns 70 = .ok (.iadd, 1) := by decide +kernel
theorem dX12_learns_71 : decode cX12_learns 71 = .ok (.istore 6, 2) := by decide +kernel
theorem dX12_learns_73 : decode cX12_learns 73 = .ok (.aload_n 0, 1) := by decide +kernel
theorem dX12_learns_74 : decode cX12_learns 74 = .ok (.getfield 9, 3) := by decide +kernel
theorem dX12_learns_77 : decode cX12_learns 77 = .ok (.sipush 148, 3) := by decide +kernel
theorem dX12_learns_80 : decode cX12_learns 80 = .ok (.iload_n 1, 1) := by decide +kernel
theorem dX12_learns_81 : decode cX12_learns 81 = .ok (.iadd, 1) := by decide +kernel
theorem dX12_learns_82 : decode cX12_learns 82 = .ok (.iaload, 1) := by decide +kernel
theorem dX12_learns_83 : decode cX12_learns 83 = .ok (.iload_n 3, 1) := by decide +kernel
theorem dX12_learns_84 : decode cX12_learns 84 = .ok (.iload 5, 2) := by decide +kernel
theorem dX12_learns_86 : decode cX12_learns 86 = .ok (.imul, 1) := by decide +kernel
theorem dX12_learns_87 : decode cX12_learns 87 = .ok (.isub, 1) := by decide +kernel
theorem dX12_learns_88 : decode cX12_learns 88 = .ok (.istore 7, 2) := by decide +kernel
theorem dX12_learns_90 : decode cX12_learns 90 = .ok (.iload 4, 2) := by decide +kernel
theorem dX12_learns_92 : decode cX12_learns 92 = .ok (.ifCond .ne 20, 3) := by decide +kernel
theorem dX12_learns_95 : decode cX12_learns 95 = .ok (.iload 6, 2) := by decide +kernel
theorem dX12_learns_97 : decode cX12_learns 97 = .ok (.bipush 30, 2) := by decide +kernel
theorem dX12_learns_99 : decode cX12_learns 99 = .ok (.if_icmp .le 8, 3) := by decide +kernel
theorem dX12_learns_102 : decode cX12_learns 102 = .ok (.bipush 30, 2) := by decide +kernel
theorem dX12_learns_104 : decode cX12_learns 104 = .ok (.goto 19, 3) := by decide +kernel
theorem dX12_learns_107 : decode cX12_learns 107 = .ok (.iload 6, 2) := by decide +kernel
theorem dX12_learns_109 : decode cX12_learns 109 = .ok (.goto 14, 3) := by decide +kernel
theorem dX12_learns_112 : decode cX12_learns 112 = .ok (.iload 7, 2) := by decide +kernel
theorem dX12_learns_114 : decode cX12_learns 114 = .ok (.ifCond .ge 7, 3) := by decide +kernel
theorem dX12_learns_117 : decode cX12_learns 117 = .ok (.iconst 0, 1) := by decide +kernel
theorem dX12_learns_118 : decode cX12_learns 118 = .ok (.goto 5, 3) := by decide +kernel
theorem dX12_learns_121 : decode cX12_learns 121 = .ok (.iload 7, 2) := by decide +kernel
theorem dX12_learns_123 : decode cX12_learns 123 = .ok (.ireturn, 1) := by decide +kernel
theorem dX12_ranBody_0 : decode cX12_ranBody 0 = .ok (.aload_n 0, 1) := by decide +kernel
theorem dX12_ranBody_1 : decode cX12_ranBody 1 = .ok (.getfield 194, 3) := by decide +kernel
theorem dX12_ranBody_4 : decode cX12_ranBody 4 = .ok (.bipush 20, 2) := by decide +kernel
theorem dX12_ranBody_6 : decode cX12_ranBody 6 = .ok (.if_icmp .ge 13, 3) := by decide +kernel
theorem dX12_ranBody_9 : decode cX12_ranBody 9 = .ok (.aload_n 0, 1) := by decide +kernel
theorem dX12_ranBody_10 : decode cX12_ranBody 10 = .ok (.getfield 25, 3) := by decide +kernel
theorem dX12_ranBody_13 : decode cX12_ranBody 13 = .ok (.aload_n 0, 1) := by decide +kernel
theorem dX12_ranBody_14 : decode cX12_ranBody 14 = .ok (.getfield 194, 3) := by decide +kernel
theorem dX12_ranBody_17 : decode cX12_ranBody 17 = .ok (.iload_n 1, 1) := by decide +kernel
theorem dX12_ranBody_18 : decode cX12_ranBody 18 = .ok (.iastore, 1) := by decide +kernel
theorem dX12_ranBody_19 : decode cX12_ranBody 19 = .ok (.aload_n 0, 1) := by decide +kernel
theorem dX12_ranBody_20 : decode cX12_ranBody 20 = .ok (.dup, 1) := by decide +kernel
theorem dX12_ranBody_21 : decode cX12_ranBody 21 = .ok (.getfield 194, 3) := by decide +kernel
theorem dX12_ranBody_24 : decode cX12_ranBody 24 = .ok (.iconst 1, 1) := by decide +kernel
theorem dX12_ranBody_25 : decode cX12_ranBody 25 = .ok (.iadd, 1) := by decide +kernel
theorem dX12_ranBody_26 : decode cX12_ranBody 26 = .ok (.putfield 194, 3) := by decide +kernel
theorem dX12_ranBody_29 : decode cX12_ranBody 29 = .ok (.return_, 1) := by decide +kernel
theorem dX12_isUnder_0 : decode cX12_isUnder 0 = .ok (.iload_n 1, 1) := by decide +kernel
theorem dX12_isUnder_1 : decode cX12_isUnder 1 = .ok (.ifCond .eq 45, 3) := by decide +kernel
theorem dX12_isUnder_4 : decode cX12_isUnder 4 = .ok (.iload_n 1, 1) := by decide +kernel
theorem dX12_isUnder_5 : decode cX12_isUnder 5 = .ok (.iload_n 0, 1) := by decide +kernel
theorem dX12_isUnder_6 : decode cX12_isUnder 6 = .ok (.if_icmp .eq 40, 3) := by decide +kernel
theorem dX12_isUnder_9 : decode cX12_isUnder 9 = .ok (.iload_n 1, 1) := by decide +kernel
theorem dX12_isUnder_10 : decode cX12_isUnder 10 = .ok (.iconst 1, 1) := by decide +kernel
theorem dX12_isUnder_11 : decode cX12_isUnder 11 = .ok (.if_icmp .ne 14, 3) := by decide +kernel
theorem dX12_isUnder_14 : decode cX12_isUnder 14 = .ok (.iload_n 0, 1) := by decide +kernel
theorem dX12_isUnder_15 : decode cX12_isUnder 15 = .ok (.iconst 2, 1) := by decide +kernel
theorem dX12_isUnder_16 : decode cX12_isUnder 16 = .ok (.if_icmp .eq 30, 3) := by decide +kernel
theorem dX12_isUnder_19 : decode cX12_isUnder 19 = .ok (.iload_n 0, 1) := by decide +kernel
theorem dX12_isUnder_20 : decode cX12_isUnder 20 = .ok (.bipush 6, 2) := by decide +kernel
theorem dX12_isUnder_22 : decode cX12_isUnder 22 = .ok (.if_icmp .eq 24, 3) := by decide +kernel
theorem dX12_isUnder_25 : decode cX12_isUnder 25 = .ok (.iload_n 1, 1) := by decide +kernel
theorem dX12_isUnder_26 : decode cX12_isUnder 26 = .ok (.iconst 2, 1) := by decide +kernel
theorem dX12_isUnder_27 : decode cX12_isUnder 27 = .ok (.if_icmp .ne 9, 3) := by decide +kernel
theorem dX12_isUnder_30 : decode cX12_isUnder 30 = .ok (.iload_n 0, 1) := by decide +kernel
theorem dX12_isUnder_31 : decode cX12_isUnder 31 = .ok (.bipush 6, 2) := by decide +kernel
theorem dX12_isUnder_33 : decode cX12_isUnder 33 = .ok (.if_icmp .eq 13, 3) := by decide +kernel
theorem dX12_isUnder_36 : decode cX12_isUnder 36 = .ok (.iload_n 1, 1) := by decide +kernel
theorem dX12_isUnder_37 : decode cX12_isUnder 37 = .ok (.iconst 3, 1) := by decide +kernel
theorem dX12_isUnder_38 : decode cX12_isUnder 38 = .ok (.if_icmp .ne 12, 3) := by decide +kernel
theorem dX12_isUnder_41 : decode cX12_isUnder 41 = .ok (.iload_n 0, 1) := by decide +kernel
theorem dX12_isUnder_42 : decode cX12_isUnder 42 = .ok (.iconst 4, 1) := by decide +kernel
theorem dX12_isUnder_43 : decode cX12_isUnder 43 = .ok (.if_icmp .ne 7, 3) := by decide +kernel
theorem dX12_isUnder_46 : decode cX12_isUnder 46 = .ok (.iconst 1, 1) := by decide +kernel
theorem dX12_isUnder_47 : decode cX12_isUnder 47 = .ok (.goto 4, 3) := by decide +kernel
theorem dX12_isUnder_50 : decode cX12_isUnder 50 = .ok (.iconst 0, 1) := by decide +kernel
theorem dX12_isUnder_51 : decode cX12_isUnder 51 = .ok (.ireturn, 1) := by decide +kernel
set_option maxRecDepth 20000 in
theorem ggX12_plainTurns_X12_ranBody : GoodIn wsX12_plainTurns wsX12_ranBody := goodIn_r _ [6, 7, 8, 9, 10, 11, 12, 13, 14, 15, 16, 17, 18, 19, 20, 21, 22, 23, 24, 25, 26, 27, 28, 29, 30] (by decide +kernel) (by decide +kernel)
set_option maxRecDepth 20000 in
theorem gX12_plainTurns_X12_ranBody : GoodIn wsX12_plainTurns (wsV RX12 197 RX12 yX12_ranBody wsX12_ranBody) := goodIn_app (goodIn_of _ (by decide +kernel)) ggX12_plainTurns_X12_ranBody
theorem dX12_plainTurns_0 : decode cX12_plainTurns 0 = .ok (.aload_n 0, 1) := by decide +kernel
theorem dX12_plainTurns_1 : decode cX12_plainTurns 1 = .ok (.iconst 1, 1) := by decide +kernel
theorem dX12_plainTurns_2 : decode cX12_plainTurns 2 = .ok (.invokevirtual 197, 3) := by decide +kernel
theorem dX12_plainTurns_5 : decode cX12_plainTurns 5 = .ok (.iload_n 1, 1) := by decide +kernel
theorem dX12_plainTurns_6 : decode cX12_plainTurns 6 = .ok (.aload_n 0, 1) := by decide +kernel
theorem dX12_plainTurns_7 : decode cX12_plainTurns 7 = .ok (.getfield 200, 3) := by decide +kernel
theorem dX12_plainTurns_10 : decode cX12_plainTurns 10 = .ok (.iadd, 1) := by decide +kernel
theorem dX12_plainTurns_11 : decode cX12_plainTurns 11 = .ok (.ireturn, 1) := by decide +kernel
set_option maxRecDepth 20000 in
theorem ggX12_turningTurns_X12_ranBody : GoodIn wsX12_turningTurns wsX12_ranBody := goodIn_r _ [5, 6, 7, 13, 14, 15, 16, 17, 18, 19, 20, 21, 22, 23, 24, 25, 26, 27, 28, 29, 30, 31, 32, 33, 34] (by decide +kernel) (by decide +kernel)
set_option maxRecDepth 20000 in
theorem gX12_turningTurns_X12_ranBody : GoodIn wsX12_turningTurns (wsV RX12 197 RX12 yX12_ranBody wsX12_ranBody) := goodIn_app (goodIn_of _ (by decide +kernel)) ggX12_turningTurns_X12_ranBody
set_option maxRecDepth 20000 in
theorem ggX12_turningTurns_X12_plainTurns : GoodIn wsX12_turningTurns wsX12_plainTurns := goodIn_r _ [11, 12, 1, 2, 3, 4, 5, 6, 7, 13, 14, 15, 16, 17, 18, 19, 20, 21, 22, 23, 24, 25, 26, 27, 28, 29, 30, 31, 32, 33, 34] (by decide +kernel) (by decide +kernel)
set_option maxRecDepth 20000 in
theorem gX12_turningTurns_X12_plainTurns : GoodIn wsX12_turningTurns (wsV RX12 203 RX12 yX12_plainTurns wsX12_plainTurns) := goodIn_app (goodIn_of _ (by decide +kernel)) ggX12_turningTurns_X12_plainTurns
theorem dX12_turningTurns_0 : decode cX12_turningTurns 0 = .ok (.aload_n 0, 1) := by decide +kernel
theorem dX12_turningTurns_1 : decode cX12_turningTurns 1 = .ok (.bipush 11, 2) := by decide +kernel
theorem dX12_turningTurns_3 : decode cX12_turningTurns 3 = .ok (.invokevirtual 197, 3) := by decide +kernel
theorem dX12_turningTurns_6 : decode cX12_turningTurns 6 = .ok (.aload_n 0, 1) := by decide +kernel
theorem dX12_turningTurns_7 : decode cX12_turningTurns 7 = .ok (.iload_n 1, 1) := by decide +kernel
theorem dX12_turningTurns_8 : decode cX12_turningTurns 8 = .ok (.iconst 3, 1) := by decide +kernel
theorem dX12_turningTurns_9 : decode cX12_turningTurns 9 = .ok (.imul, 1) := by decide +kernel
theorem dX12_turningTurns_10 : decode cX12_turningTurns 10 = .ok (.invokevirtual 203, 3) := by decide +kernel
theorem dX12_turningTurns_13 : decode cX12_turningTurns 13 = .ok (.ireturn, 1) := by decide +kernel
set_option maxRecDepth 20000 in
theorem ggX12_turnsActs_X12_ranBody : GoodIn wsX12_turnsActs wsX12_ranBody := goodIn_r _ [7, 8, 9, 21, 22, 23, 24, 25, 26, 27, 28, 29, 30, 31, 32, 33, 34, 35, 36, 37, 38, 39, 40, 41, 42] (by decide +kernel) (by decide +kernel)
set_option maxRecDepth 20000 in
theorem gX12_turnsActs_X12_ranBody : GoodIn wsX12_turnsActs (wsV RX12 197 RX12 yX12_ranBody wsX12_ranBody) := goodIn_app (goodIn_of _ (by decide +kernel)) ggX12_turnsActs_X12_ranBody
set_option maxRecDepth 20000 in
theorem ggX12_turnsActs_X12_turningTurns : GoodIn wsX12_turnsActs wsX12_turningTurns := goodIn_r _ [13, 3, 4, 5, 6, 7, 8, 9, 14, 15, 16, 17, 2, 21, 22, 23, 24, 25, 26, 27, 28, 29, 30, 31, 32, 33, 34, 35, 36, 37, 38, 39, 40, 41, 42] (by decide +kernel) (by decide +kernel)
set_option maxRecDepth 20000 in
theorem gX12_turnsActs_X12_turningTurns : GoodIn wsX12_turnsActs (wsV RX12 209 RX12 yX12_turningTurns wsX12_turningTurns) := goodIn_app (goodIn_of _ (by decide +kernel)) ggX12_turnsActs_X12_turningTurns
set_option maxRecDepth 20000 in
theorem ggX12_turnsActs_X12_isUnder : GoodIn wsX12_turnsActs wsX12_isUnder := goodIn_r _ [20] (by decide +kernel) (by decide +kernel)
set_option maxRecDepth 20000 in
theorem gX12_turnsActs_X12_isUnder : GoodIn wsX12_turnsActs (va_wsS RX12 212 yX12_isUnder wsX12_isUnder) := goodIn_app (goodIn_of _ (by decide +kernel)) ggX12_turnsActs_X12_isUnder
set_option maxRecDepth 20000 in
theorem ggX12_turnsActs_X12_plainTurns : GoodIn wsX12_turnsActs wsX12_plainTurns := goodIn_r _ [17, 2, 3, 4, 5, 6, 7, 8, 9, 21, 22, 23, 24, 25, 26, 27, 28, 29, 30, 31, 32, 33, 34, 35, 36, 37, 38, 39, 40, 41, 42] (by decide +kernel) (by decide +kernel)
set_option maxRecDepth 20000 in
theorem gX12_turnsActs_X12_plainTurns : GoodIn wsX12_turnsActs (wsV RX12 203 RX12 yX12_plainTurns wsX12_plainTurns) := goodIn_app (goodIn_of _ (by decide +kernel)) ggX12_turnsActs_X12_plainTurns
theorem dX12_turnsActs_0 : decode cX12_turnsActs 0 = .ok (.aload_n 0, 1) := by decide +kernel
theorem dX12_turnsActs_1 : decode cX12_turnsActs 1 = .ok (.getfield 206, 3) := by decide +kernel
theorem dX12_turnsActs_4 : decode cX12_turnsActs 4 = .ok (.bipush 6, 2) := by decide +kernel
theorem dX12_turnsActs_6 : decode cX12_turnsActs 6 = .ok (.if_icmp .ne 20, 3) := by decide +kernel
theorem dX12_turnsActs_9 : decode cX12_turnsActs 9 = .ok (.aload_n 0, 1) := by decide +kernel
theorem dX12_turnsActs_10 : decode cX12_turnsActs 10 = .ok (.bipush 51, 2) := by decide +kernel
theorem dX12_turnsActs_12 : decode cX12_turnsActs 12 = .ok (.invokevirtual 197, 3) := by decide +kernel
theorem dX12_turnsActs_15 : decode cX12_turnsActs 15 = .ok (.aload_n 0, 1) := by decide +kernel
theorem dX12_turnsActs_16 : decode cX12_turnsActs 16 = .ok (.iload_n 1, 1) := by decide +kernel
theorem dX12_turnsActs_17 : decode cX12_turnsActs 17 = .ok (.invokevirtual 209, 3) := by decide +kernel
theorem dX12_turnsActs_20 : decode cX12_turnsActs 20 = .ok (.aload_n 0, 1) := by decide +kernel
theorem dX12_turnsActs_21 : decode cX12_turnsActs 21 = .ok (.getfield 200, 3) := by decide +kernel
theorem dX12_turnsActs_24 : decode cX12_turnsActs 24 = .ok (.ixor, 1) := by decide +kernel
theorem dX12_turnsActs_25 : decode cX12_turnsActs 25 = .ok (.ireturn, 1) := by decide +kernel
theorem dX12_turnsActs_26 : decode cX12_turnsActs 26 = .ok (.aload_n 0, 1) := by decide +kernel
theorem dX12_turnsActs_27 : decode cX12_turnsActs 27 = .ok (.getfield 206, 3) := by decide +kernel
theorem dX12_turnsActs_30 : decode cX12_turnsActs 30 = .ok (.iconst 1, 1) := by decide +kernel
theorem dX12_turnsActs_31 : decode cX12_turnsActs 31 = .ok (.invokestatic 212, 3) := by decide +kernel
theorem dX12_turnsActs_34 : decode cX12_turnsActs 34 = .ok (.ifCond .eq 11, 3) := by decide +kernel
theorem dX12_turnsActs_37 : decode cX12_turnsActs 37 = .ok (.aload_n 0, 1) := by decide +kernel
theorem dX12_turnsActs_38 : decode cX12_turnsActs 38 = .ok (.iload_n 1, 1) := by decide +kernel
theorem dX12_turnsActs_39 : decode cX12_turnsActs 39 = .ok (.invokevirtual 209, 3) := by decide +kernel
theorem dX12_turnsActs_42 : decode cX12_turnsActs 42 = .ok (.goto 8, 3) := by decide +kernel
theorem dX12_turnsActs_45 : decode cX12_turnsActs 45 = .ok (.aload_n 0, 1) := by decide +kernel
theorem dX12_turnsActs_46 : decode cX12_turnsActs 46 = .ok (.iload_n 1, 1) := by decide +kernel
theorem dX12_turnsActs_47 : decode cX12_turnsActs 47 = .ok (.invokevirtual 203, 3) := by decide +kernel
theorem dX12_turnsActs_50 : decode cX12_turnsActs 50 = .ok (.ireturn, 1) := by decide +kernel
set_option maxRecDepth 20000 in
theorem ggX12_plainLands_X12_ranBody : GoodIn wsX12_plainLands wsX12_ranBody := goodIn_r _ [6, 7, 8, 26, 27, 28, 29, 30, 31, 32, 33, 34, 35, 36, 37, 38, 39, 40, 41, 42, 43, 44, 45, 46, 47] (by decide +kernel) (by decide +kernel)
set_option maxRecDepth 20000 in
theorem gX12_plainLands_X12_ranBody : GoodIn wsX12_plainLands (wsV RX12 197 RX12 yX12_ranBody wsX12_ranBody) := goodIn_app (goodIn_of _ (by decide +kernel)) ggX12_plainLands_X12_ranBody
set_option maxRecDepth 20000 in
theorem ggX12_plainLands_X12_turnsActs : GoodIn wsX12_plainLands wsX12_turnsActs := goodIn_r _ [12, 13, 14, 2, 3, 4, 5, 6, 7, 8, 15, 16, 17, 18, 19, 20, 21, 22, 23, 24, 25, 26, 27, 28, 29, 30, 31, 32, 33, 34, 35, 36, 37, 38, 39, 40, 41, 42, 43, 44, 45, 46, 47] (by decide +kernel) (by decide +kernel)
set_option maxRecDepth 20000 in
theorem gX12_plainLands_X12_turnsActs : GoodIn wsX12_plainLands (wsV RX12 216 RX12 yX12_turnsActs wsX12_turnsActs) := goodIn_app (goodIn_of _ (by decide +kernel)) ggX12_plainLands_X12_turnsActs
theorem dX12_plainLands_0 : decode cX12_plainLands 0 = .ok (.aload_n 0, 1) := by decide +kernel
theorem dX12_plainLands_1 : decode cX12_plainLands 1 = .ok (.iconst 2, 1) := by decide +kernel
theorem dX12_plainLands_2 : decode cX12_plainLands 2 = .ok (.invokevirtual 197, 3) := by decide +kernel
theorem dX12_plainLands_5 : decode cX12_plainLands 5 = .ok (.aload_n 0, 1) := by decide +kernel
theorem dX12_plainLands_6 : decode cX12_plainLands 6 = .ok (.iload_n 1, 1) := by decide +kernel
theorem dX12_plainLands_7 : decode cX12_plainLands 7 = .ok (.invokevirtual 216, 3) := by decide +kernel
theorem dX12_plainLands_10 : decode cX12_plainLands 10 = .ok (.aload_n 0, 1) := by decide +kernel
theorem dX12_plainLands_11 : decode cX12_plainLands 11 = .ok (.getfield 219, 3) := by decide +kernel
theorem dX12_plainLands_14 : decode cX12_plainLands 14 = .ok (.isub, 1) := by decide +kernel
theorem dX12_plainLands_15 : decode cX12_plainLands 15 = .ok (.ireturn, 1) := by decide +kernel
set_option maxRecDepth 20000 in
theorem ggX12_caughtLands_X12_ranBody : GoodIn wsX12_caughtLands wsX12_ranBody := goodIn_r _ [5, 6, 7, 30, 31, 32, 33, 34, 35, 36, 37, 38, 39, 40, 41, 42, 43, 44, 45, 46, 47, 48, 49, 50, 51] (by decide +kernel) (by decide +kernel)
set_option maxRecDepth 20000 in
theorem gX12_caughtLands_X12_ranBody : GoodIn wsX12_caughtLands (wsV RX12 197 RX12 yX12_ranBody wsX12_ranBody) := goodIn_app (goodIn_of _ (by decide +kernel)) ggX12_caughtLands_X12_ranBody
set_option maxRecDepth 20000 in
theorem ggX12_caughtLands_X12_plainLands : GoodIn wsX12_caughtLands wsX12_plainLands := goodIn_r _ [11, 12, 1, 2, 3, 4, 5, 6, 7, 13, 14, 15, 16, 17, 18, 19, 20, 21, 22, 23, 24, 25, 26, 27, 28, 29, 30, 31, 32, 33, 34, 35, 36, 37, 38, 39, 40, 41, 42, 43, 44, 45, 46, 47, 48, 49, 50, 51] (by decide +kernel) (by decide +kernel)
set_option maxRecDepth 20000 in
theorem gX12_caughtLands_X12_plainLands : GoodIn wsX12_caughtLands (wsV RX12 222 RX12 yX12_plainLands wsX12_plainLands) := goodIn_app (goodIn_of _ (by decide +kernel)) ggX12_caughtLands_X12_plainLands
theorem dX12_caughtLands_0 : decode cX12_caughtLands 0 = .ok (.aload_n 0, 1) := by decide +kernel
theorem dX12_caughtLands_1 : decode cX12_caughtLands 1 = .ok (.bipush 21, 2) := by decide +kernel
theorem dX12_caughtLands_3 : decode cX12_caughtLands 3 = .ok (.invokevirtual 197, 3) := by decide +kernel
theorem dX12_caughtLands_6 : decode cX12_caughtLands 6 = .ok (.aload_n 0, 1) := by decide +kernel
theorem dX12_caughtLands_7 : decode cX12_caughtLands 7 = .ok (.iload_n 1, 1) := by decide +kernel
theorem dX12_caughtLands_8 : decode cX12_caughtLands 8 = .ok (.invokevirtual 222, 3) := by decide +kernel
theorem dX12_caughtLands_11 : decode cX12_caughtLands 11 = .ok (.ineg, 1) := by decide +kernel
theorem dX12_caughtLands_12 : decode cX12_caughtLands 12 = .ok (.ireturn, 1) := by decide +kernel
set_option maxRecDepth 20000 in
theorem ggX12_landsActs_X12_ranBody : GoodIn wsX12_landsActs wsX12_ranBody := goodIn_r _ [7, 8, 9, 34, 35, 36, 37, 38, 39, 40, 41, 42, 43, 44, 45, 46, 47, 48, 49, 50, 51, 52, 53, 54, 55] (by decide +kernel) (by decide +kernel)
set_option maxRecDepth 20000 in
theorem gX12_landsActs_X12_ranBody : GoodIn wsX12_landsActs (wsV RX12 197 RX12 yX12_ranBody wsX12_ranBody) := goodIn_app (goodIn_of _ (by decide +kernel)) ggX12_landsActs_X12_ranBody
set_option maxRecDepth 20000 in
theorem ggX12_landsActs_X12_caughtLands : GoodIn wsX12_landsActs wsX12_caughtLands := goodIn_r _ [13, 3, 4, 5, 6, 7, 8, 9, 14, 15, 16, 17, 2, 18, 19, 20, 21, 1, 22, 23, 24, 25, 26, 27, 28, 29, 30, 31, 32, 33, 34, 35, 36, 37, 38, 39, 40, 41, 42, 43, 44, 45, 46, 47, 48, 49, 50, 51, 52, 53, 54, 55] (by decide +kernel) (by decide +kernel)
set_option maxRecDepth 20000 in
theorem gX12_landsActs_X12_caughtLands : GoodIn wsX12_landsActs (wsV RX12 225 RX12 yX12_caughtLands wsX12_caughtLands) := goodIn_app (goodIn_of _ (by decide +kernel)) ggX12_landsActs_X12_caughtLands
set_option maxRecDepth 20000 in
theorem ggX12_landsActs_X12_plainLands : GoodIn wsX12_landsActs wsX12_plainLands := goodIn_r _ [17, 2, 3, 4, 5, 6, 7, 8, 9, 18, 19, 20, 21, 1, 22, 23, 24, 25, 26, 27, 28, 29, 30, 31, 32, 33, 34, 35, 36, 37, 38, 39, 40, 41, 42, 43, 44, 45, 46, 47, 48, 49, 50, 51, 52, 53, 54, 55] (by decide +kernel) (by decide +kernel)
set_option maxRecDepth 20000 in
theorem gX12_landsActs_X12_plainLands : GoodIn wsX12_landsActs (wsV RX12 222 RX12 yX12_plainLands wsX12_plainLands) := goodIn_app (goodIn_of _ (by decide +kernel)) ggX12_landsActs_X12_plainLands
theorem dX12_landsActs_0 : decode cX12_landsActs 0 = .ok (.aload_n 0, 1) := by decide +kernel
theorem dX12_landsActs_1 : decode cX12_landsActs 1 = .ok (.getfield 206, 3) := by decide +kernel
theorem dX12_landsActs_4 : decode cX12_landsActs 4 = .ok (.iconst 4, 1) := by decide +kernel
theorem dX12_landsActs_5 : decode cX12_landsActs 5 = .ok (.if_icmp .ne 20, 3) := by decide +kernel
theorem dX12_landsActs_8 : decode cX12_landsActs 8 = .ok (.aload_n 0, 1) := by decide +kernel
theorem dX12_landsActs_9 : decode cX12_landsActs 9 = .ok (.bipush 61, 2) := by decide +kernel
theorem dX12_landsActs_11 : decode cX12_landsActs 11 = .ok (.invokevirtual 197, 3) := by decide +kernel
theorem dX12_landsActs_14 : decode cX12_landsActs 14 = .ok (.aload_n 0, 1) := by decide +kernel
theorem dX12_landsActs_15 : decode cX12_landsActs 15 = .ok (.iload_n 1, 1) := by decide +kernel
theorem dX12_landsActs_16 : decode cX12_landsActs 16 = .ok (.invokevirtual 225, 3) := by decide +kernel
theorem dX12_landsActs_19 : decode cX12_landsActs 19 = .ok (.aload_n 0, 1) := by decide +kernel
theorem dX12_landsActs_20 : decode cX12_landsActs 20 = .ok (.getfield 219, 3) := by decide +kernel
theorem dX12_landsActs_23 : decode cX12_landsActs 23 = .ok (.iadd, 1) := by decide +kernel
theorem dX12_landsActs_24 : decode cX12_landsActs 24 = .ok (.ireturn, 1) := by decide +kernel
theorem dX12_landsActs_25 : decode cX12_landsActs 25 = .ok (.aload_n 0, 1) := by decide +kernel
theorem dX12_landsActs_26 : decode cX12_landsActs 26 = .ok (.getfield 206, 3) := by decide +kernel
theorem dX12_landsActs_29 : decode cX12_landsActs 29 = .ok (.iconst 3, 1) := by decide +kernel
theorem dX12_landsActs_30 : decode cX12_landsActs 30 = .ok (.if_icmp .ne 11, 3) := by decide +kernel
theorem dX12_landsActs_33 : decode cX12_landsActs 33 = .ok (.aload_n 0, 1) := by decide +kernel
theorem dX12_landsActs_34 : decode cX12_landsActs 34 = .ok (.iload_n 1, 1) := by decide +kernel
theorem dX12_landsActs_35 : decode cX12_landsActs 35 = .ok (.invokevirtual 225, 3) := by decide +kernel
theorem dX12_landsActs_38 : decode cX12_landsActs 38 = .ok (.goto 8, 3) := by decide +kernel
theorem dX12_landsActs_41 : decode cX12_landsActs 41 = .ok (.aload_n 0, 1) := by decide +kernel
theorem dX12_landsActs_42 : decode cX12_landsActs 42 = .ok (.iload_n 1, 1) := by decide +kernel
theorem dX12_landsActs_43 : decode cX12_landsActs 43 = .ok (.invokevirtual 222, 3) := by decide +kernel
theorem dX12_landsActs_46 : decode cX12_landsActs 46 = .ok (.ireturn, 1) := by decide +kernel
set_option maxRecDepth 20000 in
theorem ggX12_plainLeans_X12_ranBody : GoodIn wsX12_plainLeans wsX12_ranBody := goodIn_r _ [5, 6, 7, 38, 39, 40, 41, 42, 43, 44, 45, 46, 47, 48, 49, 50, 51, 52, 53, 54, 55, 56, 57, 58, 59] (by decide +kernel) (by decide +kernel)
set_option maxRecDepth 20000 in
theorem gX12_plainLeans_X12_ranBody : GoodIn wsX12_plainLeans (wsV RX12 197 RX12 yX12_ranBody wsX12_ranBody) := goodIn_app (goodIn_of _ (by decide +kernel)) ggX12_plainLeans_X12_ranBody
set_option maxRecDepth 20000 in
theorem ggX12_plainLeans_X12_landsActs : GoodIn wsX12_plainLeans wsX12_landsActs := goodIn_r _ [11, 12, 13, 1, 2, 3, 4, 5, 6, 7, 14, 15, 16, 17, 18, 19, 20, 21, 22, 23, 24, 25, 26, 27, 28, 29, 30, 31, 32, 33, 34, 35, 36, 37, 38, 39, 40, 41, 42, 43, 44, 45, 46, 47, 48, 49, 50, 51, 52, 53, 54, 55, 56, 57, 58, 59] (by decide +kernel) (by decide +kernel)
set_option maxRecDepth 20000 in
theorem gX12_plainLeans_X12_landsActs : GoodIn wsX12_plainLeans (wsV RX12 228 RX12 yX12_landsActs wsX12_landsActs) := goodIn_app (goodIn_of _ (by decide +kernel)) ggX12_plainLeans_X12_landsActs
theorem dX12_plainLeans_0 : decode cX12_plainLeans 0 = .ok (.aload_n 0, 1) := by decide +kernel
theorem dX12_plainLeans_1 : decode cX12_plainLeans 1 = .ok (.iconst 3, 1) := by decide +kernel
theorem dX12_plainLeans_2 : decode cX12_plainLeans 2 = .ok (.invokevirtual 197, 3) := by decide +kernel
theorem dX12_plainLeans_5 : decode cX12_plainLeans 5 = .ok (.aload_n 0, 1) := by decide +kernel
theorem dX12_plainLeans_6 : decode cX12_plainLeans 6 = .ok (.iload_n 1, 1) := by decide +kernel
theorem dX12_plainLeans_7 : decode cX12_plainLeans 7 = .ok (.invokevirtual 228, 3) := by decide +kernel
theorem dX12_plainLeans_10 : decode cX12_plainLeans 10 = .ok (.iconst 2, 1) := by decide +kernel
theorem dX12_plainLeans_11 : decode cX12_plainLeans 11 = .ok (.imul, 1) := by decide +kernel
theorem dX12_plainLeans_12 : decode cX12_plainLeans 12 = .ok (.ireturn, 1) := by decide +kernel
set_option maxRecDepth 20000 in
theorem ggX12_leansActs_X12_ranBody : GoodIn wsX12_leansActs wsX12_ranBody := goodIn_r _ [6, 7, 8, 42, 43, 44, 45, 46, 47, 48, 49, 50, 51, 52, 53, 54, 55, 56, 57, 58, 59, 60, 61, 62, 63] (by decide +kernel) (by decide +kernel)
set_option maxRecDepth 20000 in
theorem gX12_leansActs_X12_ranBody : GoodIn wsX12_leansActs (wsV RX12 197 RX12 yX12_ranBody wsX12_ranBody) := goodIn_app (goodIn_of _ (by decide +kernel)) ggX12_leansActs_X12_ranBody
set_option maxRecDepth 20000 in
theorem ggX12_leansActs_X12_plainLeans : GoodIn wsX12_leansActs wsX12_plainLeans := goodIn_r _ [12, 2, 3, 4, 5, 6, 7, 8, 13, 14, 15, 16, 1, 17, 18, 19, 20, 21, 22, 23, 24, 25, 26, 27, 28, 29, 30, 31, 32, 33, 34, 35, 36, 37, 38, 39, 40, 41, 42, 43, 44, 45, 46, 47, 48, 49, 50, 51, 52, 53, 54, 55, 56, 57, 58, 59, 60, 61, 62, 63] (by decide +kernel) (by decide +kernel)
set_option maxRecDepth 20000 in
theorem gX12_leansActs_X12_plainLeans : GoodIn wsX12_leansActs (wsV RX12 231 RX12 yX12_plainLeans wsX12_plainLeans) := goodIn_app (goodIn_of _ (by decide +kernel)) ggX12_leansActs_X12_plainLeans
set_option maxRecDepth 20000 in
theorem ggX12_leansActs_X12_isUnder : GoodIn wsX12_leansActs wsX12_isUnder := goodIn_r _ [41] (by decide +kernel) (by decide +kernel)
set_option maxRecDepth 20000 in
theorem gX12_leansActs_X12_isUnder : GoodIn wsX12_leansActs (va_wsS RX12 212 yX12_isUnder wsX12_isUnder) := goodIn_app (goodIn_of _ (by decide +kernel)) ggX12_leansActs_X12_isUnder
set_option maxRecDepth 20000 in
theorem ggX12_leansActs_X12_turnsActs : GoodIn wsX12_leansActs wsX12_turnsActs := goodIn_r _ [29, 1, 30, 2, 3, 4, 5, 6, 7, 8, 31, 32, 33, 34, 35, 36, 37, 38, 39, 40, 41, 42, 43, 44, 45, 46, 47, 48, 49, 50, 51, 52, 53, 54, 55, 56, 57, 58, 59, 60, 61, 62, 63] (by decide +kernel) (by decide +kernel)
set_option maxRecDepth 20000 in
theorem gX12_leansActs_X12_turnsActs : GoodIn wsX12_leansActs (wsV RX12 216 RX12 yX12_turnsActs wsX12_turnsActs) := goodIn_app (goodIn_of _ (by decide +kernel)) ggX12_leansActs_X12_turnsActs
theorem dX12_leansActs_0 : decode cX12_leansActs 0 = .ok (.aload_n 0, 1) := by decide +kernel
theorem dX12_leansActs_1 : decode cX12_leansActs 1 = .ok (.getfield 206, 3) := by decide +kernel
theorem dX12_leansActs_4 : decode cX12_leansActs 4 = .ok (.iconst 5, 1) := by decide +kernel
theorem dX12_leansActs_5 : decode cX12_leansActs 5 = .ok (.if_icmp .ne 18, 3) := by decide +kernel
theorem dX12_leansActs_8 : decode cX12_leansActs 8 = .ok (.aload_n 0, 1) := by decide +kernel
theorem dX12_leansActs_9 : decode cX12_leansActs 9 = .ok (.bipush 31, 2) := by decide +kernel
theorem dX12_leansActs_11 : decode cX12_leansActs 11 = .ok (.invokevirtual 197, 3) := by decide +kernel
theorem dX12_leansActs_14 : decode cX12_leansActs 14 = .ok (.aload_n 0, 1) := by decide +kernel
theorem dX12_leansActs_15 : decode cX12_leansActs 15 = .ok (.iload_n 1, 1) := by decide +kernel
theorem dX12_leansActs_16 : decode cX12_leansActs 16 = .ok (.invokevirtual 231, 3) := by decide +kernel
theorem dX12_leansActs_19 : decode cX12_leansActs 19 = .ok (.bipush 7, 2) := by decide +kernel
theorem dX12_leansActs_21 : decode cX12_leansActs 21 = .ok (.ixor, 1) := by decide +kernel
theorem dX12_leansActs_22 : decode cX12_leansActs 22 = .ok (.ireturn, 1) := by decide +kernel
theorem dX12_leansActs_23 : decode cX12_leansActs 23 = .ok (.aload_n 0, 1) := by decide +kernel
theorem dX12_leansActs_24 : decode cX12_leansActs 24 = .ok (.getfield 206, 3) := by decide +kernel
theorem dX12_leansActs_27 : decode cX12_leansActs 27 = .ok (.iconst 2, 1) := by decide +kernel
theorem dX12_leansActs_28 : decode cX12_leansActs 28 = .ok (.invokestatic 212, 3) := by decide +kernel
theorem dX12_leansActs_31 : decode cX12_leansActs 31 = .ok (.ifCond .eq 25, 3) := by decide +kernel
theorem dX12_leansActs_34 : decode cX12_leansActs 34 = .ok (.aload_n 0, 1) := by decide +kernel
theorem dX12_leansActs_35 : decode cX12_leansActs 35 = .ok (.bipush 41, 2) := by decide +kernel
theorem dX12_leansActs_37 : decode cX12_leansActs 37 = .ok (.invokevirtual 197, 3) := by decide +kernel
theorem dX12_leansActs_40 : decode cX12_leansActs 40 = .ok (.aload_n 0, 1) := by decide +kernel
theorem dX12_leansActs_41 : decode cX12_leansActs 41 = .ok (.iload_n 1, 1) := by decide +kernel
theorem dX12_leansActs_42 : decode cX12_leansActs 42 = .ok (.iconst 1, 1) := by decide +kernel
theorem dX12_leansActs_43 : decode cX12_leansActs 43 = .ok (.isub, 1) := by decide +kernel
theorem dX12_leansActs_44 : decode cX12_leansActs 44 = .ok (.invokevirtual 231, 3) := by decide +kernel
theorem dX12_leansActs_47 : decode cX12_leansActs 47 = .ok (.istore_n 2, 1) := by decide +kernel
theorem dX12_leansActs_48 : decode cX12_leansActs 48 = .ok (.iload_n 2, 1) := by decide +kernel
theorem dX12_leansActs_49 : decode cX12_leansActs 49 = .ok (.aload_n 0, 1) := by decide +kernel
theorem dX12_leansActs_50 : decode cX12_leansActs 50 = .ok (.iconst 2, 1) := by decide +kernel
theorem dX12_leansActs_51 : decode cX12_leansActs 51 = .ok (.invokevirtual 216, 3) := by decide +kernel
theorem dX12_leansActs_54 : decode cX12_leansActs 54 = .ok (.iadd, 1) := by decide +kernel
theorem dX12_leansActs_55 : decode cX12_leansActs 55 = .ok (.ireturn, 1) := by decide +kernel
theorem dX12_leansActs_56 : decode cX12_leansActs 56 = .ok (.aload_n 0, 1) := by decide +kernel
theorem dX12_leansActs_57 : decode cX12_leansActs 57 = .ok (.iload_n 1, 1) := by decide +kernel
theorem dX12_leansActs_58 : decode cX12_leansActs 58 = .ok (.invokevirtual 231, 3) := by decide +kernel
theorem dX12_leansActs_61 : decode cX12_leansActs 61 = .ok (.ireturn, 1) := by decide +kernel
set_option maxRecDepth 20000 in
theorem ggX12_act_X12_isLaw : GoodIn wsX12_act wsX12_isLaw := goodIn_r _ [10, 2, 11, 12, 9, 13, 54, 55, 56, 57, 58, 59, 60, 61, 62, 63, 64, 65, 66, 67, 68, 69, 70, 71, 72, 73, 74, 75] (by decide +kernel) (by decide +kernel)
set_option maxRecDepth 20000 in
theorem gX12_act_X12_isLaw : GoodIn wsX12_act (wsV RX12 36 RX12 yX12_isLaw wsX12_isLaw) := goodIn_app (goodIn_of _ (by decide +kernel)) ggX12_act_X12_isLaw
set_option maxRecDepth 20000 in
theorem ggX12_act_X12_in : GoodIn wsX12_act wsX12_in := goodIn_r _ [13] (by decide +kernel) (by decide +kernel)
set_option maxRecDepth 20000 in
theorem gX12_act_X12_in : GoodIn wsX12_act (va_wsS RX12 32 yX12_in wsX12_in) := goodIn_app (goodIn_of _ (by decide +kernel)) ggX12_act_X12_in
set_option maxRecDepth 20000 in
theorem ggX12_act_X12_turnsActs : GoodIn wsX12_act wsX12_turnsActs := goodIn_r _ [17, 3, 4, 18, 19, 20, 9, 21, 1, 22, 23, 24, 25, 26, 27, 28, 29, 30, 31, 32, 33, 54, 55, 56, 57, 58, 59, 60, 61, 62, 63, 64, 65, 66, 67, 68, 69, 70, 71, 72, 73, 74, 75] (by decide +kernel) (by decide +kernel)
set_option maxRecDepth 20000 in
theorem gX12_act_X12_turnsActs : GoodIn wsX12_act (wsV RX12 216 RX12 yX12_turnsActs wsX12_turnsActs) := goodIn_app (goodIn_of _ (by decide +kernel)) ggX12_act_X12_turnsActs
set_option maxRecDepth 20000 in
theorem ggX12_act_X12_landsActs : GoodIn wsX12_act wsX12_landsActs := goodIn_r _ [37, 3, 5, 18, 19, 20, 9, 21, 1, 22, 38, 39, 40, 41, 42, 43, 44, 45, 14, 15, 16, 17, 4, 23, 24, 25, 26, 27, 28, 29, 30, 31, 32, 33, 54, 55, 56, 57, 58, 59, 60, 61, 62, 63, 64, 65, 66, 67, 68, 69, 70, 71, 72, 73, 74, 75] (by decide +kernel) (by decide +kernel)
set_option maxRecDepth 20000 in
theorem gX12_act_X12_landsActs : GoodIn wsX12_act (wsV RX12 228 RX12 yX12_landsActs wsX12_landsActs) := goodIn_app (goodIn_of _ (by decide +kernel)) ggX12_act_X12_landsActs
set_option maxRecDepth 20000 in
theorem ggX12_act_X12_leansActs : GoodIn wsX12_act wsX12_leansActs := goodIn_r _ [49, 3, 18, 19, 20, 9, 21, 1, 22, 50, 51, 52, 53, 34, 35, 36, 37, 5, 38, 39, 40, 41, 42, 43, 44, 45, 14, 15, 16, 17, 4, 23, 24, 25, 26, 27, 28, 29, 30, 31, 32, 33, 54, 55, 56, 57, 58, 59, 60, 61, 62, 63, 64, 65, 66, 67, 68, 69, 70, 71, 72, 73, 74, 75] (by decide +kernel) (by decide +kernel)
set_option maxRecDepth 20000 in
theorem gX12_act_X12_leansActs : GoodIn wsX12_act (wsV RX12 234 RX12 yX12_leansActs wsX12_leansActs) := goodIn_app (goodIn_of _ (by decide +kernel)) ggX12_act_X12_leansActs
theorem dX12_act_0 : decode cX12_act 0 = .ok (.aload_n 0, 1) := by decide +kernel
theorem dX12_act_1 : decode cX12_act 1 = .ok (.iconst 0, 1) := by decide +kernel
theorem dX12_act_2 : decode cX12_act 2 = .ok (.putfield 194, 3) := by decide +kernel
theorem dX12_act_5 : decode cX12_act 5 = .ok (.aload_n 0, 1) := by decide +kernel
theorem dX12_act_6 : decode cX12_act 6 = .ok (.iload_n 1, 1) := by decide +kernel
theorem dX12_act_7 : decode cX12_act 7 = .ok (.invokevirtual 36, 3) := by decide +kernel
theorem dX12_act_10 : decode cX12_act 10 = .ok (.ifCond .eq 12, 3) := by decide +kernel
theorem dX12_act_13 : decode cX12_act 13 = .ok (.iload_n 2, 1) := by decide +kernel
theorem dX12_act_14 : decode cX12_act 14 = .ok (.iconst 0, 1) := by decide +kernel
theorem dX12_act_15 : decode cX12_act 15 = .ok (.iconst 2, 1) := by decide +kernel
theorem dX12_act_16 : decode cX12_act 16 = .ok (.invokestatic 32, 3) := by decide +kernel
theorem dX12_act_19 : decode cX12_act 19 = .ok (.ifCond .ne 5, 3) := by decide +kernel
theorem dX12_act_22 : decode cX12_act 22 = .ok (.iconst 0, 1) := by decide +kernel
theorem dX12_act_23 : decode cX12_act 23 = .ok (.ireturn, 1) := by decide +kernel
theorem dX12_act_24 : decode cX12_act 24 = .ok (.aload_n 0, 1) := by decide +kernel
theorem dX12_act_25 : decode cX12_act 25 = .ok (.aload_n 0, 1) := by decide +kernel
theorem dX12_act_26 : decode cX12_act 26 = .ok (.getfield 9, 3) := by decide +kernel
theorem dX12_act_29 : decode cX12_act 29 = .ok (.sipush 226, 3) := by decide +kernel
theorem dX12_act_32 : decode cX12_act 32 = .ok (.iload_n 1, 1) := by decide +kernel
theorem dX12_act_33 : decode cX12_act 33 = .ok (.iadd, 1) := by decide +kernel
theorem dX12_act_34 : decode cX12_act 34 = .ok (.iaload, 1) := by decide +kernel
theorem dX12_act_35 : decode cX12_act 35 = .ok (.putfield 206, 3) := by decide +kernel
theorem dX12_act_38 : decode cX12_act 38 = .ok (.aload_n 0, 1) := by decide +kernel
theorem dX12_act_39 : decode cX12_act 39 = .ok (.iload_n 1, 1) := by decide +kernel
theorem dX12_act_40 : decode cX12_act 40 = .ok (.putfield 200, 3) := by decide +kernel
theorem dX12_act_43 : decode cX12_act 43 = .ok (.aload_n 0, 1) := by decide +kernel
theorem dX12_act_44 : decode cX12_act 44 = .ok (.aload_n 0, 1) := by decide +kernel
theorem dX12_act_45 : decode cX12_act 45 = .ok (.getfield 9, 3) := by decide +kernel
theorem dX12_act_48 : decode cX12_act 48 = .ok (.sipush 234, 3) := by decide +kernel
theorem dX12_act_51 : decode cX12_act 51 = .ok (.iload_n 1, 1) := by decide +kernel
theorem dX12_act_52 : decode cX12_act 52 = .ok (.iadd, 1) := by decide +kernel
theorem dX12_act_53 : decode cX12_act 53 = .ok (.iaload, 1) := by decide +kernel
theorem dX12_act_54 : decode cX12_act 54 = .ok (.putfield 219, 3) := by decide +kernel
theorem dX12_act_57 : decode cX12_act 57 = .ok (.iload_n 2, 1) := by decide +kernel
theorem dX12_act_58 : decode cX12_act 58 = .ok (.ifCond .ne 11, 3) := by decide +kernel
theorem dX12_act_61 : decode cX12_act 61 = .ok (.aload_n 0, 1) := by decide +kernel
theorem dX12_act_62 : decode cX12_act 62 = .ok (.iload_n 3, 1) := by decide +kernel
theorem dX12_act_63 : decode cX12_act 63 = .ok (.invokevirtual 216, 3) := by decide +kernel
theorem dX12_act_66 : decode cX12_act 66 = .ok (.goto 21, 3) := by decide +kernel
theorem dX12_act_69 : decode cX12_act 69 = .ok (.iload_n 2, 1) := by decide +kernel
theorem dX12_act_70 : decode cX12_act 70 = .ok (.iconst 1, 1) := by decide +kernel
theorem dX12_act_71 : decode cX12_act 71 = .ok (.if_icmp .ne 11, 3) := by decide +kernel
theorem dX12_act_74 : decode cX12_act 74 = .ok (.aload_n 0, 1) := by decide +kernel
theorem dX12_act_75 : decode cX12_act 75 = .ok (.iload_n 3, 1) := by decide +kernel
theorem dX12_act_76 : decode cX12_act 76 = .ok (.invokevirtual 228, 3) := by decide +kernel
theorem dX12_act_79 : decode cX12_act 79 = .ok (.goto 8, 3) := by decide +kernel
theorem dX12_act_82 : decode cX12_act 82 = .ok (.aload_n 0, 1) := by decide +kernel
theorem dX12_act_83 : decode cX12_act 83 = .ok (.iload_n 3, 1) := by decide +kernel
theorem dX12_act_84 : decode cX12_act 84 = .ok (.invokevirtual 234, 3) := by decide +kernel
theorem dX12_act_87 : decode cX12_act 87 = .ok (.ireturn, 1) := by decide +kernel
set_option maxRecDepth 20000 in
theorem ggX12_trace_X12_in : GoodIn wsX12_trace wsX12_in := goodIn_r _ [6] (by decide +kernel) (by decide +kernel)
set_option maxRecDepth 20000 in
theorem gX12_trace_X12_in : GoodIn wsX12_trace (va_wsS RX12 32 yX12_in wsX12_in) := goodIn_app (goodIn_of _ (by decide +kernel)) ggX12_trace_X12_in
theorem dX12_trace_0 : decode cX12_trace 0 = .ok (.iload_n 1, 1) := by decide +kernel
theorem dX12_trace_1 : decode cX12_trace 1 = .ok (.iconst 0, 1) := by decide +kernel
theorem dX12_trace_2 : decode cX12_trace 2 = .ok (.aload_n 0, 1) := by decide +kernel
theorem dX12_trace_3 : decode cX12_trace 3 = .ok (.getfield 194, 3) := by decide +kernel
theorem dX12_trace_6 : decode cX12_trace 6 = .ok (.bipush 20, 2) := by decide +kernel
theorem dX12_trace_8 : decode cX12_trace 8 = .ok (.if_icmp .ge 10, 3) := by decide +kernel
theorem dX12_trace_11 : decode cX12_trace 11 = .ok (.aload_n 0, 1) := by decide +kernel
theorem dX12_trace_12 : decode cX12_trace 12 = .ok (.getfield 194, 3) := by decide +kernel
theorem dX12_trace_15 : decode cX12_trace 15 = .ok (.goto 5, 3) := by decide +kernel
theorem dX12_trace_18 : decode cX12_trace 18 = .ok (.bipush 20, 2) := by decide +kernel
theorem dX12_trace_20 : decode cX12_trace 20 = .ok (.iconst 1, 1) := by decide +kernel
theorem dX12_trace_21 : decode cX12_trace 21 = .ok (.isub, 1) := by decide +kernel
theorem dX12_trace_22 : decode cX12_trace 22 = .ok (.invokestatic 32, 3) := by decide +kernel
theorem dX12_trace_25 : decode cX12_trace 25 = .ok (.ifCond .eq 12, 3) := by decide +kernel
theorem dX12_trace_28 : decode cX12_trace 28 = .ok (.aload_n 0, 1) := by decide +kernel
theorem dX12_trace_29 : decode cX12_trace 29 = .ok (.getfield 25, 3) := by decide +kernel
theorem dX12_trace_32 : decode cX12_trace 32 = .ok (.iload_n 1, 1) := by decide +kernel
theorem dX12_trace_33 : decode cX12_trace 33 = .ok (.iaload, 1) := by decide +kernel
theorem dX12_trace_34 : decode cX12_trace 34 = .ok (.goto 4, 3) := by decide +kernel
theorem dX12_trace_37 : decode cX12_trace 37 = .ok (.iconst (-1), 1) := by decide +kernel
theorem dX12_trace_38 : decode cX12_trace 38 = .ok (.ireturn, 1) := by decide +kernel
set_option maxRecDepth 20000 in
theorem ggX12_as_X12_isLaw : GoodIn wsX12_as wsX12_isLaw := goodIn_r _ [6, 1, 7, 8, 5, 9, 13, 14, 15, 16, 17, 18, 19, 20, 21, 22, 23, 24, 25, 26, 27, 28, 29, 30, 31, 32, 33, 34] (by decide +kernel) (by decide +kernel)
set_option maxRecDepth 20000 in
theorem gX12_as_X12_isLaw : GoodIn wsX12_as (wsV RX12 36 RX12 yX12_isLaw wsX12_isLaw) := goodIn_app (goodIn_of _ (by decide +kernel)) ggX12_as_X12_isLaw
set_option maxRecDepth 20000 in
theorem ggX12_as_X12_in : GoodIn wsX12_as wsX12_in := goodIn_r _ [9] (by decide +kernel) (by decide +kernel)
set_option maxRecDepth 20000 in
theorem gX12_as_X12_in : GoodIn wsX12_as (va_wsS RX12 32 yX12_in wsX12_in) := goodIn_app (goodIn_of _ (by decide +kernel)) ggX12_as_X12_in
set_option maxRecDepth 20000 in
theorem ggX12_as_X12_isUnder : GoodIn wsX12_as wsX12_isUnder := goodIn_r _ [12] (by decide +kernel) (by decide +kernel)
set_option maxRecDepth 20000 in
theorem gX12_as_X12_isUnder : GoodIn wsX12_as (va_wsS RX12 212 yX12_isUnder wsX12_isUnder) := goodIn_app (goodIn_of _ (by decide +kernel)) ggX12_as_X12_isUnder
theorem dX12_as_0 : decode cX12_as 0 = .ok (.aload_n 0, 1) := by decide +kernel
theorem dX12_as_1 : decode cX12_as 1 = .ok (.iload_n 1, 1) := by decide +kernel
theorem dX12_as_2 : decode cX12_as 2 = .ok (.invokevirtual 36, 3) := by decide +kernel
theorem dX12_as_5 : decode cX12_as 5 = .ok (.ifCond .eq 13, 3) := by decide +kernel
theorem dX12_as_8 : decode cX12_as 8 = .ok (.iload_n 2, 1) := by decide +kernel
theorem dX12_as_9 : decode cX12_as 9 = .ok (.iconst 0, 1) := by decide +kernel
theorem dX12_as_10 : decode cX12_as 10 = .ok (.bipush 6, 2) := by decide +kernel
theorem dX12_as_12 : decode cX12_as 12 = .ok (.invokestatic 32, 3) := by decide +kernel
theorem dX12_as_15 : decode cX12_as 15 = .ok (.ifCond .ne 5, 3) := by decide +kernel
theorem dX12_as_18 : decode cX12_as 18 = .ok (.iconst (-1), 1) := by decide +kernel
theorem dX12_as_19 : decode cX12_as 19 = .ok (.ireturn, 1) := by decide +kernel
theorem dX12_as_20 : decode cX12_as 20 = .ok (.aload_n 0, 1) := by decide +kernel
theorem dX12_as_21 : decode cX12_as 21 = .ok (.getfield 9, 3) := by decide +kernel
theorem dX12_as_24 : decode cX12_as 24 = .ok (.sipush 226, 3) := by decide +kernel
theorem dX12_as_27 : decode cX12_as 27 = .ok (.iload_n 1, 1) := by decide +kernel
theorem dX12_as_28 : decode cX12_as 28 = .ok (.iadd, 1) := by decide +kernel
theorem dX12_as_29 : decode cX12_as 29 = .ok (.iaload, 1) := by decide +kernel
theorem dX12_as_30 : decode cX12_as 30 = .ok (.iload_n 2, 1) := by decide +kernel
theorem dX12_as_31 : decode cX12_as 31 = .ok (.invokestatic 212, 3) := by decide +kernel
theorem dX12_as_34 : decode cX12_as 34 = .ok (.ifCond .eq 16, 3) := by decide +kernel
theorem dX12_as_37 : decode cX12_as 37 = .ok (.aload_n 0, 1) := by decide +kernel
theorem dX12_as_38 : decode cX12_as 38 = .ok (.getfield 9, 3) := by decide +kernel
theorem dX12_as_41 : decode cX12_as 41 = .ok (.sipush 234, 3) := by decide +kernel
theorem dX12_as_44 : decode cX12_as 44 = .ok (.iload_n 1, 1) := by decide +kernel
theorem dX12_as_45 : decode cX12_as 45 = .ok (.iadd, 1) := by decide +kernel
theorem dX12_as_46 : decode cX12_as 46 = .ok (.iaload, 1) := by decide +kernel
theorem dX12_as_47 : decode cX12_as 47 = .ok (.goto 5, 3) := by decide +kernel
theorem dX12_as_50 : decode cX12_as 50 = .ok (.bipush (-6), 2) := by decide +kernel
theorem dX12_as_52 : decode cX12_as 52 = .ok (.ireturn, 1) := by decide +kernel
theorem dX12_image_0 : decode cX12_image 0 = .ok (.iconst 0, 1) := by decide +kernel
theorem dX12_image_1 : decode cX12_image 1 = .ok (.istore_n 1, 1) := by decide +kernel
theorem dX12_image_2 : decode cX12_image 2 = .ok (.iload_n 1, 1) := by decide +kernel
theorem dX12_image_3 : decode cX12_image 3 = .ok (.sipush 1394, 3) := by decide +kernel
theorem dX12_image_6 : decode cX12_image 6 = .ok (.if_icmp .ge 21, 3) := by decide +kernel
theorem dX12_image_9 : decode cX12_image 9 = .ok (.aload_n 0, 1) := by decide +kernel
theorem dX12_image_10 : decode cX12_image 10 = .ok (.getfield 15, 3) := by decide +kernel
theorem dX12_image_13 : decode cX12_image 13 = .ok (.iload_n 1, 1) := by decide +kernel
theorem dX12_image_14 : decode cX12_image 14 = .ok (.aload_n 0, 1) := by decide +kernel
theorem dX12_image_15 : decode cX12_image 15 = .ok (.getfield 9, 3) := by decide +kernel
theorem dX12_image_18 : decode cX12_image 18 = .ok (.iload_n 1, 1) := by decide +kernel
theorem dX12_image_19 : decode cX12_image 19 = .ok (.iaload, 1) := by decide +kernel
theorem dX12_image_20 : decode cX12_image 20 = .ok (.iastore, 1) := by decide +kernel
theorem dX12_image_21 : decode cX12_image 21 = .ok (.iinc 1 1, 3) := by decide +kernel
theorem dX12_image_24 : decode cX12_image 24 = .ok (.goto (-22), 3) := by decide +kernel
theorem dX12_image_27 : decode cX12_image 27 = .ok (.aload_n 0, 1) := by decide +kernel
theorem dX12_image_28 : decode cX12_image 28 = .ok (.iconst 1, 1) := by decide +kernel
theorem dX12_image_29 : decode cX12_image 29 = .ok (.putfield 237, 3) := by decide +kernel
theorem dX12_image_32 : decode cX12_image 32 = .ok (.aload_n 0, 1) := by decide +kernel
theorem dX12_image_33 : decode cX12_image 33 = .ok (.getfield 9, 3) := by decide +kernel
theorem dX12_image_36 : decode cX12_image 36 = .ok (.iconst 1, 1) := by decide +kernel
theorem dX12_image_37 : decode cX12_image 37 = .ok (.iaload, 1) := by decide +kernel
theorem dX12_image_38 : decode cX12_image 38 = .ok (.ireturn, 1) := by decide +kernel
theorem dX12_undo_0 : decode cX12_undo 0 = .ok (.aload_n 0, 1) := by decide +kernel
theorem dX12_undo_1 : decode cX12_undo 1 = .ok (.getfield 237, 3) := by decide +kernel
theorem dX12_undo_4 : decode cX12_undo 4 = .ok (.ifCond .ne 6, 3) := by decide +kernel
theorem dX12_undo_7 : decode cX12_undo 7 = .ok (.bipush (-3), 2) := by decide +kernel
theorem dX12_undo_9 : decode cX12_undo 9 = .ok (.ireturn, 1) := by decide +kernel
theorem dX12_undo_10 : decode cX12_undo 10 = .ok (.iconst 0, 1) := by decide +kernel
theorem dX12_undo_11 : decode cX12_undo 11 = .ok (.istore_n 1, 1) := by decide +kernel
theorem dX12_undo_12 : decode cX12_undo 12 = .ok (.iload_n 1, 1) := by decide +kernel
theorem dX12_undo_13 : decode cX12_undo 13 = .ok (.sipush 1394, 3) := by decide +kernel
theorem dX12_undo_16 : decode cX12_undo 16 = .ok (.if_icmp .ge 21, 3) := by decide +kernel
theorem dX12_undo_19 : decode cX12_undo 19 = .ok (.aload_n 0, 1) := by decide +kernel
theorem dX12_undo_20 : decode cX12_undo 20 = .ok (.getfield 9, 3) := by decide +kernel
theorem dX12_undo_23 : decode cX12_undo 23 = .ok (.iload_n 1, 1) := by decide +kernel
theorem dX12_undo_24 : decode cX12_undo 24 = .ok (.aload_n 0, 1) := by decide +kernel
theorem dX12_undo_25 : decode cX12_undo 25 = .ok (.getfield 15, 3) := by decide +kernel
theorem dX12_undo_28 : decode cX12_undo 28 = .ok (.iload_n 1, 1) := by decide +kernel
theorem dX12_undo_29 : decode cX12_undo 29 = .ok (.iaload, 1) := by decide +kernel
theorem dX12_undo_30 : decode cX12_undo 30 = .ok (.iastore, 1) := by decide +kernel
theorem dX12_undo_31 : decode cX12_undo 31 = .ok (.iinc 1 1, 3) := by decide +kernel
theorem dX12_undo_34 : decode cX12_undo 34 = .ok (.goto (-22), 3) := by decide +kernel
theorem dX12_undo_37 : decode cX12_undo 37 = .ok (.aload_n 0, 1) := by decide +kernel
theorem dX12_undo_38 : decode cX12_undo 38 = .ok (.getfield 9, 3) := by decide +kernel
theorem dX12_undo_41 : decode cX12_undo 41 = .ok (.iconst 1, 1) := by decide +kernel
theorem dX12_undo_42 : decode cX12_undo 42 = .ok (.iaload, 1) := by decide +kernel
theorem dX12_undo_43 : decode cX12_undo 43 = .ok (.ireturn, 1) := by decide +kernel
theorem dX12_count_0 : decode cX12_count 0 = .ok (.iload_n 1, 1) := by decide +kernel
theorem dX12_count_1 : decode cX12_count 1 = .ok (.tableswitch 79 0 5 #[39, 46, 53, 60, 67, 74], 39) := by decide +kernel
theorem dX12_count_40 : decode cX12_count 40 = .ok (.aload_n 0, 1) := by decide +kernel
theorem dX12_count_41 : decode cX12_count 41 = .ok (.getfield 9, 3) := by decide +kernel
theorem dX12_count_44 : decode cX12_count 44 = .ok (.iconst 0, 1) := by decide +kernel
theorem dX12_count_45 : decode cX12_count 45 = .ok (.iaload, 1) := by decide +kernel
theorem dX12_count_46 : decode cX12_count 46 = .ok (.ireturn, 1) := by decide +kernel
theorem dX12_count_47 : decode cX12_count 47 = .ok (.aload_n 0, 1) := by decide +kernel
theorem dX12_count_48 : decode cX12_count 48 = .ok (.getfield 9, 3) := by decide +kernel
theorem dX12_count_51 : decode cX12_count 51 = .ok (.iconst 1, 1) := by decide +kernel
theorem dX12_count_52 : decode cX12_count 52 = .ok (.iaload, 1) := by decide +kernel
theorem dX12_count_53 : decode cX12_count 53 = .ok (.ireturn, 1) := by decide +kernel
theorem dX12_count_54 : decode cX12_count 54 = .ok (.aload_n 0, 1) := by decide +kernel
theorem dX12_count_55 : decode cX12_count 55 = .ok (.getfield 9, 3) := by decide +kernel
theorem dX12_count_58 : decode cX12_count 58 = .ok (.iconst 2, 1) := by decide +kernel
theorem dX12_count_59 : decode cX12_count 59 = .ok (.iaload, 1) := by decide +kernel
theorem dX12_count_60 : decode cX12_count 60 = .ok (.ireturn, 1) := by decide +kernel
theorem dX12_count_61 : decode cX12_count 61 = .ok (.aload_n 0, 1) := by decide +kernel
theorem dX12_count_62 : decode cX12_count 62 = .ok (.getfield 9, 3) := by decide +kernel
theorem dX12_count_65 : decode cX12_count 65 = .ok (.iconst 3, 1) := by decide +kernel
theorem dX12_count_66 : decode cX12_count 66 = .ok (.iaload, 1) := by decide +kernel
theorem dX12_count_67 : decode cX12_count 67 = .ok (.ireturn, 1) := by decide +kernel
theorem dX12_count_68 : decode cX12_count 68 = .ok (.aload_n 0, 1) := by decide +kernel
theorem dX12_count_69 : decode cX12_count 69 = .ok (.getfield 9, 3) := by decide +kernel
theorem dX12_count_72 : decode cX12_count 72 = .ok (.iconst 4, 1) := by decide +kernel
theorem dX12_count_73 : decode cX12_count 73 = .ok (.iaload, 1) := by decide +kernel
theorem dX12_count_74 : decode cX12_count 74 = .ok (.ireturn, 1) := by decide +kernel
theorem dX12_count_75 : decode cX12_count 75 = .ok (.aload_n 0, 1) := by decide +kernel
theorem dX12_count_76 : decode cX12_count 76 = .ok (.getfield 194, 3) := by decide +kernel
theorem dX12_count_79 : decode cX12_count 79 = .ok (.ireturn, 1) := by decide +kernel
theorem dX12_count_80 : decode cX12_count 80 = .ok (.iconst (-1), 1) := by decide +kernel
theorem dX12_count_81 : decode cX12_count 81 = .ok (.ireturn, 1) := by decide +kernel
theorem dJ11_isValidCodePoint_9a6ad_0 : decode cJ11_isValidCodePoint_9a6ad 0 = .ok (.iload_n 0, 1) := by decide +kernel
theorem dJ11_isValidCodePoint_9a6ad_1 : decode cJ11_isValidCodePoint_9a6ad 1 = .ok (.bipush 16, 2) := by decide +kernel
theorem dJ11_isValidCodePoint_9a6ad_3 : decode cJ11_isValidCodePoint_9a6ad 3 = .ok (.iushr, 1) := by decide +kernel
theorem dJ11_isValidCodePoint_9a6ad_4 : decode cJ11_isValidCodePoint_9a6ad 4 = .ok (.istore_n 1, 1) := by decide +kernel
theorem dJ11_isValidCodePoint_9a6ad_5 : decode cJ11_isValidCodePoint_9a6ad 5 = .ok (.iload_n 1, 1) := by decide +kernel
theorem dJ11_isValidCodePoint_9a6ad_6 : decode cJ11_isValidCodePoint_9a6ad 6 = .ok (.bipush 17, 2) := by decide +kernel
theorem dJ11_isValidCodePoint_9a6ad_8 : decode cJ11_isValidCodePoint_9a6ad 8 = .ok (.if_icmp .ge 7, 3) := by decide +kernel
theorem dJ11_isValidCodePoint_9a6ad_11 : decode cJ11_isValidCodePoint_9a6ad 11 = .ok (.iconst 1, 1) := by decide +kernel
theorem dJ11_isValidCodePoint_9a6ad_12 : decode cJ11_isValidCodePoint_9a6ad 12 = .ok (.goto 4, 3) := by decide +kernel
theorem dJ11_isValidCodePoint_9a6ad_15 : decode cJ11_isValidCodePoint_9a6ad 15 = .ok (.iconst 0, 1) := by decide +kernel
theorem dJ11_isValidCodePoint_9a6ad_16 : decode cJ11_isValidCodePoint_9a6ad 16 = .ok (.ireturn, 1) := by decide +kernel
theorem dJ11_highSurrogate_5068e_0 : decode cJ11_highSurrogate_5068e 0 = .ok (.iload_n 0, 1) := by decide +kernel
theorem dJ11_highSurrogate_5068e_1 : decode cJ11_highSurrogate_5068e 1 = .ok (.bipush 10, 2) := by decide +kernel
theorem dJ11_highSurrogate_5068e_3 : decode cJ11_highSurrogate_5068e 3 = .ok (.iushr, 1) := by decide +kernel
theorem dJ11_highSurrogate_5068e_4 : decode cJ11_highSurrogate_5068e 4 = .ok (.ldc 110, 2) := by decide +kernel
theorem dJ11_highSurrogate_5068e_6 : decode cJ11_highSurrogate_5068e 6 = .ok (.iadd, 1) := by decide +kernel
theorem dJ11_highSurrogate_5068e_7 : decode cJ11_highSurrogate_5068e 7 = .ok (.i2c, 1) := by decide +kernel
theorem dJ11_highSurrogate_5068e_8 : decode cJ11_highSurrogate_5068e 8 = .ok (.ireturn, 1) := by decide +kernel
theorem dJ11_lowSurrogate_5068e_0 : decode cJ11_lowSurrogate_5068e 0 = .ok (.iload_n 0, 1) := by decide +kernel
theorem dJ11_lowSurrogate_5068e_1 : decode cJ11_lowSurrogate_5068e 1 = .ok (.sipush 1023, 3) := by decide +kernel
theorem dJ11_lowSurrogate_5068e_4 : decode cJ11_lowSurrogate_5068e 4 = .ok (.iand, 1) := by decide +kernel
theorem dJ11_lowSurrogate_5068e_5 : decode cJ11_lowSurrogate_5068e 5 = .ok (.ldc 76, 2) := by decide +kernel
theorem dJ11_lowSurrogate_5068e_7 : decode cJ11_lowSurrogate_5068e 7 = .ok (.iadd, 1) := by decide +kernel
theorem dJ11_lowSurrogate_5068e_8 : decode cJ11_lowSurrogate_5068e 8 = .ok (.i2c, 1) := by decide +kernel
theorem dJ11_lowSurrogate_5068e_9 : decode cJ11_lowSurrogate_5068e 9 = .ok (.ireturn, 1) := by decide +kernel
theorem dJ9_abs_0f7a4_0 : decode cJ9_abs_0f7a4 0 = .ok (.iload_n 0, 1) := by decide +kernel
theorem dJ9_abs_0f7a4_1 : decode cJ9_abs_0f7a4 1 = .ok (.ifCond .ge 8, 3) := by decide +kernel
theorem dJ9_abs_0f7a4_4 : decode cJ9_abs_0f7a4 4 = .ok (.iload_n 0, 1) := by decide +kernel
theorem dJ9_abs_0f7a4_5 : decode cJ9_abs_0f7a4 5 = .ok (.ineg, 1) := by decide +kernel
theorem dJ9_abs_0f7a4_6 : decode cJ9_abs_0f7a4 6 = .ok (.goto 4, 3) := by decide +kernel
theorem dJ9_abs_0f7a4_9 : decode cJ9_abs_0f7a4 9 = .ok (.iload_n 0, 1) := by decide +kernel
theorem dJ9_abs_0f7a4_10 : decode cJ9_abs_0f7a4 10 = .ok (.ireturn, 1) := by decide +kernel
theorem dJ9_max_7cf53_0 : decode cJ9_max_7cf53 0 = .ok (.iload_n 0, 1) := by decide +kernel
theorem dJ9_max_7cf53_1 : decode cJ9_max_7cf53 1 = .ok (.iload_n 1, 1) := by decide +kernel
theorem dJ9_max_7cf53_2 : decode cJ9_max_7cf53 2 = .ok (.if_icmp .lt 7, 3) := by decide +kernel
theorem dJ9_max_7cf53_5 : decode cJ9_max_7cf53 5 = .ok (.iload_n 0, 1) := by decide +kernel
theorem dJ9_max_7cf53_6 : decode cJ9_max_7cf53 6 = .ok (.goto 4, 3) := by decide +kernel
theorem dJ9_max_7cf53_9 : decode cJ9_max_7cf53 9 = .ok (.iload_n 1, 1) := by decide +kernel
theorem dJ9_max_7cf53_10 : decode cJ9_max_7cf53 10 = .ok (.ireturn, 1) := by decide +kernel
theorem dJ9_max_f86c9_0 : decode cJ9_max_f86c9 0 = .ok (.lload_n 0, 1) := by decide +kernel
theorem dJ9_max_f86c9_1 : decode cJ9_max_f86c9 1 = .ok (.lload_n 2, 1) := by decide +kernel
theorem dJ9_max_f86c9_2 : decode cJ9_max_f86c9 2 = .ok (.lcmp, 1) := by decide +kernel
theorem dJ9_max_f86c9_3 : decode cJ9_max_f86c9 3 = .ok (.ifCond .lt 7, 3) := by decide +kernel
theorem dJ9_max_f86c9_6 : decode cJ9_max_f86c9 6 = .ok (.lload_n 0, 1) := by decide +kernel
theorem dJ9_max_f86c9_7 : decode cJ9_max_f86c9 7 = .ok (.goto 4, 3) := by decide +kernel
theorem dJ9_max_f86c9_10 : decode cJ9_max_f86c9 10 = .ok (.lload_n 2, 1) := by decide +kernel
theorem dJ9_max_f86c9_11 : decode cJ9_max_f86c9 11 = .ok (.lreturn, 1) := by decide +kernel
theorem dJ9_min_7cf53_0 : decode cJ9_min_7cf53 0 = .ok (.iload_n 0, 1) := by decide +kernel
theorem dJ9_min_7cf53_1 : decode cJ9_min_7cf53 1 = .ok (.iload_n 1, 1) := by decide +kernel
theorem dJ9_min_7cf53_2 : decode cJ9_min_7cf53 2 = .ok (.if_icmp .gt 7, 3) := by decide +kernel
theorem dJ9_min_7cf53_5 : decode cJ9_min_7cf53 5 = .ok (.iload_n 0, 1) := by decide +kernel
theorem dJ9_min_7cf53_6 : decode cJ9_min_7cf53 6 = .ok (.goto 4, 3) := by decide +kernel
theorem dJ9_min_7cf53_9 : decode cJ9_min_7cf53 9 = .ok (.iload_n 1, 1) := by decide +kernel
theorem dJ9_min_7cf53_10 : decode cJ9_min_7cf53 10 = .ok (.ireturn, 1) := by decide +kernel
set_option maxRecDepth 20000 in
theorem ggJ0_length_8abf5_J0_coder_7d493 : GoodIn wsJ0_length_8abf5 wsJ0_coder_7d493 := goodIn_r _ [6, 7, 8] (by decide +kernel) (by decide +kernel)
set_option maxRecDepth 20000 in
theorem gJ0_length_8abf5_J0_coder_7d493 : GoodIn wsJ0_length_8abf5 (wsV RJ0 335 RJ0 yJ0_coder_7d493 wsJ0_coder_7d493) := goodIn_app (goodIn_of _ (by decide +kernel)) ggJ0_length_8abf5_J0_coder_7d493
theorem dJ0_length_8abf5_0 : decode cJ0_length_8abf5 0 = .ok (.aload_n 0, 1) := by decide +kernel
theorem dJ0_length_8abf5_1 : decode cJ0_length_8abf5 1 = .ok (.getfield 9, 3) := by decide +kernel
theorem dJ0_length_8abf5_4 : decode cJ0_length_8abf5 4 = .ok (.arraylength, 1) := by decide +kernel
theorem dJ0_length_8abf5_5 : decode cJ0_length_8abf5 5 = .ok (.aload_n 0, 1) := by decide +kernel
theorem dJ0_length_8abf5_6 : decode cJ0_length_8abf5 6 = .ok (.invokevirtual 335, 3) := by decide +kernel
theorem dJ0_length_8abf5_9 : decode cJ0_length_8abf5 9 = .ok (.ishr, 1) := by decide +kernel
theorem dJ0_length_8abf5_10 : decode cJ0_length_8abf5 10 = .ok (.ireturn, 1) := by decide +kernel
set_option maxRecDepth 20000 in
theorem ggJ0_charAt_5068e_J0_isLatin1_aae02 : GoodIn wsJ0_charAt_5068e wsJ0_isLatin1_aae02 := goodIn_r _ [6, 7, 8] (by decide +kernel) (by decide +kernel)
set_option maxRecDepth 20000 in
theorem gJ0_charAt_5068e_J0_isLatin1_aae02 : GoodIn wsJ0_charAt_5068e (wsV RJ0 492 RJ0 yJ0_isLatin1_aae02 wsJ0_isLatin1_aae02) := goodIn_app (goodIn_of _ (by decide +kernel)) ggJ0_charAt_5068e_J0_isLatin1_aae02
set_option maxRecDepth 20000 in
theorem ggJ0_charAt_5068e_J1_charAt_3b067 : GoodIn wsJ0_charAt_5068e wsJ1_charAt_3b067 := goodIn_r _ [12, 13, 14, 5, 15, 16, 17, 18, 19, 20] (by decide +kernel) (by decide +kernel)
set_option maxRecDepth 20000 in
theorem gJ0_charAt_5068e_J1_charAt_3b067 : GoodIn wsJ0_charAt_5068e (va_wsS RJ0 495 yJ1_charAt_3b067 wsJ1_charAt_3b067) := goodIn_app (goodIn_of _ (by decide +kernel)) ggJ0_charAt_5068e_J1_charAt_3b067
set_option maxRecDepth 20000 in
theorem ggJ0_charAt_5068e_J2_charAt_3b067 : GoodIn wsJ0_charAt_5068e wsJ2_charAt_3b067 := goodIn_r _ [24, 25, 26, 23, 27, 28, 29, 30, 31, 14, 5, 15, 16, 17, 18, 19, 20, 32, 33, 34, 35, 36, 37] (by decide +kernel) (by decide +kernel)
set_option maxRecDepth 20000 in
theorem gJ0_charAt_5068e_J2_charAt_3b067 : GoodIn wsJ0_charAt_5068e (va_wsS RJ0 498 yJ2_charAt_3b067 wsJ2_charAt_3b067) := goodIn_app (goodIn_of _ (by decide +kernel)) ggJ0_charAt_5068e_J2_charAt_3b067
theorem dJ0_charAt_5068e_0 : decode cJ0_charAt_5068e 0 = .ok (.aload_n 0, 1) := by decide +kernel
theorem dJ0_charAt_5068e_1 : decode cJ0_charAt_5068e 1 = .ok (.invokevirtual 492, 3) := by decide +kernel
theorem dJ0_charAt_5068e_4 : decode cJ0_charAt_5068e 4 = .ok (.ifCond .eq 12, 3) := by decide +kernel
theorem dJ0_charAt_5068e_7 : decode cJ0_charAt_5068e 7 = .ok (.aload_n 0, 1) := by decide +kernel
theorem dJ0_charAt_5068e_8 : decode cJ0_charAt_5068e 8 = .ok (.getfield 9, 3) := by decide +kernel
theorem dJ0_charAt_5068e_11 : decode cJ0_charAt_5068e 11 = .ok (.iload_n 1, 1) := by decide +kernel
theorem dJ0_charAt_5068e_12 : decode cJ0_charAt_5068e 12 = .ok (.invokestatic 495, 3) := by decide +kernel
theorem dJ0_charAt_5068e_15 : decode cJ0_charAt_5068e 15 = .ok (.ireturn, 1) := by decide +kernel
theorem dJ0_charAt_5068e_16 : decode cJ0_charAt_5068e 16 = .ok (.aload_n 0, 1) := by decide +kernel
theorem dJ0_charAt_5068e_17 : decode cJ0_charAt_5068e 17 = .ok (.getfield 9, 3) := by decide +kernel
theorem dJ0_charAt_5068e_20 : decode cJ0_charAt_5068e 20 = .ok (.iload_n 1, 1) := by decide +kernel
theorem dJ0_charAt_5068e_21 : decode cJ0_charAt_5068e 21 = .ok (.invokestatic 498, 3) := by decide +kernel
theorem dJ0_charAt_5068e_24 : decode cJ0_charAt_5068e 24 = .ok (.ireturn, 1) := by decide +kernel
set_option maxRecDepth 20000 in
theorem ggJ0_indexOf_0f7a4_J0_indexOf_7cf53 : GoodIn wsJ0_indexOf_0f7a4 wsJ0_indexOf_7cf53 := goodIn_r _ [5, 6, 7, 8, 9, 4, 10, 11, 12, 13, 14, 15, 16, 17, 18, 19, 20, 21, 22, 23, 24, 25, 26, 27, 28, 29, 30, 31, 32, 33, 34, 35, 36, 37, 38, 39, 40, 41, 42, 43, 44, 45, 46, 47, 48, 49, 50, 51, 52, 53, 54, 55, 56, 57, 58, 59, 60, 61, 62, 63, 64, 65, 66, 67, 68, 69, 70, 71, 72, 73, 74, 75, 76, 77, 78, 79, 80, 81, 82, 83, 84, 85] (by decide +kernel) (by decide +kernel)
set_option maxRecDepth 20000 in
theorem gJ0_indexOf_0f7a4_J0_indexOf_7cf53 : GoodIn wsJ0_indexOf_0f7a4 (wsV RJ0 633 RJ0 yJ0_indexOf_7cf53 wsJ0_indexOf_7cf53) := goodIn_app (goodIn_of _ (by decide +kernel)) ggJ0_indexOf_0f7a4_J0_indexOf_7cf53
theorem dJ0_indexOf_0f7a4_0 : decode cJ0_indexOf_0f7a4 0 = .ok (.aload_n 0, 1) := by decide +kernel
theorem dJ0_indexOf_0f7a4_1 : decode cJ0_indexOf_0f7a4 1 = .ok (.iload_n 1, 1) := by decide +kernel
theorem dJ0_indexOf_0f7a4_2 : decode cJ0_indexOf_0f7a4 2 = .ok (.iconst 0, 1) := by decide +kernel
theorem dJ0_indexOf_0f7a4_3 : decode cJ0_indexOf_0f7a4 3 = .ok (.invokevirtual 633, 3) := by decide +kernel
theorem dJ0_indexOf_0f7a4_6 : decode cJ0_indexOf_0f7a4 6 = .ok (.ireturn, 1) := by decide +kernel
set_option maxRecDepth 20000 in
theorem ggJ0_indexOf_7cf53_J0_isLatin1_aae02 : GoodIn wsJ0_indexOf_7cf53 wsJ0_isLatin1_aae02 := goodIn_r _ [6, 7, 8] (by decide +kernel) (by decide +kernel)
set_option maxRecDepth 20000 in
theorem gJ0_indexOf_7cf53_J0_isLatin1_aae02 : GoodIn wsJ0_indexOf_7cf53 (wsV RJ0 492 RJ0 yJ0_isLatin1_aae02 wsJ0_isLatin1_aae02) := goodIn_app (goodIn_of _ (by decide +kernel)) ggJ0_indexOf_7cf53_J0_isLatin1_aae02
set_option maxRecDepth 20000 in
theorem ggJ0_indexOf_7cf53_J0_length_8abf5 : GoodIn wsJ0_indexOf_7cf53 wsJ0_length_8abf5 := goodIn_r _ [12, 1, 13, 14, 15, 5, 16, 7, 8] (by decide +kernel) (by decide +kernel)
set_option maxRecDepth 20000 in
theorem gJ0_indexOf_7cf53_J0_length_8abf5 : GoodIn wsJ0_indexOf_7cf53 (wsV RJ0 505 RJ0 yJ0_length_8abf5 wsJ0_length_8abf5) := goodIn_app (goodIn_of _ (by decide +kernel)) ggJ0_indexOf_7cf53_J0_length_8abf5
set_option maxRecDepth 20000 in
theorem ggJ0_indexOf_7cf53_J1_indexOf_4cfef : GoodIn wsJ0_indexOf_7cf53 wsJ1_indexOf_4cfef := goodIn_r _ [20, 21, 22, 23, 24, 25, 26, 27, 28, 29, 19, 30, 31, 32, 33] (by decide +kernel) (by decide +kernel)
