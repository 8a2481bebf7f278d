set_option maxRecDepth 20000 in
theorem ggX0_init_X7_init : GoodIn wsX0_init wsX7_init := goodIn_r _ [4, 5, 6, 7, 8, 9, 10, 11, 12, 13, 14, 15, 16, 17, 18, 19, 20, 21, 22, 23, 24, 25, 26, 27, 28, 29, 30, 31, 32, 33, 34, 35, 36, 37, 38, 39, 40, 41, 42, 43, 44, 45, 46, 47, 48, 49, 50, 51, 52, 53, 54, 55, 56, 57, 58, 59, 60, 61, 62, 63, 64, 65, 66, 67, 68, 69, 70, 71, 72, 73] (by decide +kernel) (by decide +kernel)
set_option maxRecDepth 20000 in
theorem gX0_init_X7_init : GoodIn wsX0_init (wsX7_init) := ggX0_init_X7_init
theorem dX0_init_0 : decode cX0_init 0 = .ok (.aload_n 0, 1) := by decide +kernel
theorem dX0_init_1 : decode cX0_init 1 = .ok (.iload_n 1, 1) := by decide +kernel
theorem dX0_init_2 : decode cX0_init 2 = .ok (.iload_n 2, 1) := by decide +kernel
theorem dX0_init_3 : decode cX0_init 3 = .ok (.iload_n 3, 1) := by decide +kernel
theorem dX0_init_4 : decode cX0_init 4 = .ok (.aload 4, 2) := by decide +kernel
theorem dX0_init_6 : decode cX0_init 6 = .ok (.invokespecial 3, 3) := by decide +kernel
theorem dX0_init_9 : decode cX0_init 9 = .ok (.return_, 1) := by decide +kernel
set_option maxRecDepth 20000 in
theorem ggX0_sideUp_X2_isAtEnd : GoodIn wsX0_sideUp wsX2_isAtEnd := goodIn_r _ [6, 7, 8, 9, 10, 11, 12, 13, 14, 15, 16] (by decide +kernel) (by decide +kernel)
set_option maxRecDepth 20000 in
theorem gX0_sideUp_X2_isAtEnd_n21 : GoodIn wsX0_sideUp (wsX2_isAtEnd) := ggX0_sideUp_X2_isAtEnd
theorem dX0_sideUp_0 : decode cX0_sideUp 0 = .ok (.aload_n 1, 1) := by decide +kernel
theorem dX0_sideUp_1 : decode cX0_sideUp 1 = .ok (.getfield 9, 3) := by decide +kernel
theorem dX0_sideUp_4 : decode cX0_sideUp 4 = .ok (.bipush 50, 2) := by decide +kernel
theorem dX0_sideUp_6 : decode cX0_sideUp 6 = .ok (.iload_n 2, 1) := by decide +kernel
theorem dX0_sideUp_7 : decode cX0_sideUp 7 = .ok (.invokestatic 15, 3) := by decide +kernel
theorem dX0_sideUp_10 : decode cX0_sideUp 10 = .ok (.istore_n 3, 1) := by decide +kernel
theorem dX0_sideUp_11 : decode cX0_sideUp 11 = .ok (.aload_n 1, 1) := by decide +kernel
theorem dX0_sideUp_12 : decode cX0_sideUp 12 = .ok (.invokevirtual 21, 3) := by decide +kernel
theorem dX0_sideUp_15 : decode cX0_sideUp 15 = .ok (.ifCond .eq 19, 3) := by decide +kernel
theorem dX0_sideUp_18 : decode cX0_sideUp 18 = .ok (.aload_n 0, 1) := by decide +kernel
theorem dX0_sideUp_19 : decode cX0_sideUp 19 = .ok (.getfield 25, 3) := by decide +kernel
theorem dX0_sideUp_22 : decode cX0_sideUp 22 = .ok (.iconst 2, 1) := by decide +kernel
theorem dX0_sideUp_23 : decode cX0_sideUp 23 = .ok (.irem, 1) := by decide +kernel
theorem dX0_sideUp_24 : decode cX0_sideUp 24 = .ok (.iconst 1, 1) := by decide +kernel
theorem dX0_sideUp_25 : decode cX0_sideUp 25 = .ok (.if_icmp .ne 9, 3) := by decide +kernel
theorem dX0_sideUp_28 : decode cX0_sideUp 28 = .ok (.iconst 1, 1) := by decide +kernel
theorem dX0_sideUp_29 : decode cX0_sideUp 29 = .ok (.iload_n 3, 1) := by decide +kernel
theorem dX0_sideUp_30 : decode cX0_sideUp 30 = .ok (.isub, 1) := by decide +kernel
theorem dX0_sideUp_31 : decode cX0_sideUp 31 = .ok (.goto 4, 3) := by decide +kernel
theorem dX0_sideUp_34 : decode cX0_sideUp 34 = .ok (.iload_n 3, 1) := by decide +kernel
theorem dX0_sideUp_35 : decode cX0_sideUp 35 = .ok (.ireturn, 1) := by decide +kernel
set_option maxRecDepth 20000 in
theorem ggX0_lands_X8_began : GoodIn wsX0_lands wsX8_began := goodIn_r _ [4, 5, 6, 38, 39] (by decide +kernel) (by decide +kernel)
set_option maxRecDepth 20000 in
theorem gX0_lands_X8_began_n28 : GoodIn wsX0_lands (wsX8_began) := ggX0_lands_X8_began
set_option maxRecDepth 20000 in
theorem ggX0_lands_X7_lands : GoodIn wsX0_lands wsX7_lands := goodIn_r _ [12, 13, 1, 2, 3, 4, 5, 6, 14, 15, 16, 17, 11, 18, 19, 20, 21, 22, 23, 24, 25, 26, 27, 28, 29, 30, 31, 32, 33, 34, 35, 36, 37, 40, 41, 42, 43, 44, 45, 46, 47, 48, 49, 50, 51, 52, 53, 54, 55, 56, 57, 58, 59, 60, 61, 62, 63, 64, 65, 66, 67, 68, 69, 70, 71, 72, 73, 74, 38, 39] (by decide +kernel) (by decide +kernel)
set_option maxRecDepth 20000 in
theorem gX0_lands_X7_lands_s34 : GoodIn wsX0_lands (va_wsSU RX0 34 yX7_lands wsX7_lands) := goodIn_app (goodIn_of _ (by decide +kernel)) ggX0_lands_X7_lands
theorem dX0_lands_0 : decode cX0_lands 0 = .ok (.aload_n 2, 1) := by decide +kernel
theorem dX0_lands_1 : decode cX0_lands 1 = .ok (.bipush 21, 2) := by decide +kernel
theorem dX0_lands_3 : decode cX0_lands 3 = .ok (.invokevirtual 28, 3) := by decide +kernel
theorem dX0_lands_6 : decode cX0_lands 6 = .ok (.aload_n 0, 1) := by decide +kernel
theorem dX0_lands_7 : decode cX0_lands 7 = .ok (.iload_n 1, 1) := by decide +kernel
theorem dX0_lands_8 : decode cX0_lands 8 = .ok (.aload_n 2, 1) := by decide +kernel
theorem dX0_lands_9 : decode cX0_lands 9 = .ok (.invokespecial 34, 3) := by decide +kernel
theorem dX0_lands_12 : decode cX0_lands 12 = .ok (.ineg, 1) := by decide +kernel
theorem dX0_lands_13 : decode cX0_lands 13 = .ok (.ireturn, 1) := by decide +kernel
set_option maxRecDepth 20000 in
theorem ggX1_init_X0_init : GoodIn wsX1_init wsX0_init := goodIn_r _ [4, 5, 6, 7, 8, 9, 10, 11, 12, 13, 14, 15, 16, 17, 18, 19, 20, 21, 22, 23, 24, 25, 26, 27, 28, 29, 30, 31, 32, 33, 34, 35, 36, 37, 38, 39, 40, 41, 42, 43, 44, 45, 46, 47, 48, 49, 50, 51, 52, 53, 54, 55, 56, 57, 58, 59, 60, 61, 62, 63, 64, 65, 66, 67, 68, 69, 70, 71, 72, 73, 74, 75, 76, 77] (by decide +kernel) (by decide +kernel)
set_option maxRecDepth 20000 in
theorem gX1_init_X0_init : GoodIn wsX1_init (wsX0_init) := ggX1_init_X0_init
theorem dX1_init_0 : decode cX1_init 0 = .ok (.aload_n 0, 1) := by decide +kernel
theorem dX1_init_1 : decode cX1_init 1 = .ok (.iload_n 1, 1) := by decide +kernel
theorem dX1_init_2 : decode cX1_init 2 = .ok (.iload_n 2, 1) := by decide +kernel
theorem dX1_init_3 : decode cX1_init 3 = .ok (.iload_n 3, 1) := by decide +kernel
theorem dX1_init_4 : decode cX1_init 4 = .ok (.aload 4, 2) := by decide +kernel
theorem dX1_init_6 : decode cX1_init 6 = .ok (.invokespecial 1, 3) := by decide +kernel
theorem dX1_init_9 : decode cX1_init 9 = .ok (.return_, 1) := by decide +kernel
set_option maxRecDepth 20000 in
theorem ggX1_sideUp_X0_sideUp : GoodIn wsX1_sideUp wsX0_sideUp := goodIn_r _ [8, 9, 10, 11, 12, 13, 14, 15, 16, 52, 53, 54, 55, 56, 57, 58, 59, 17, 18, 19, 20, 21, 22, 23, 24, 25, 26, 27, 28, 29, 30, 31, 32, 33, 34, 35, 36, 37, 38, 39, 40, 41, 42, 43, 44, 45, 46, 47, 48, 49, 50, 51] (by decide +kernel) (by decide +kernel)
set_option maxRecDepth 20000 in
theorem gX1_sideUp_X0_sideUp_s7 : GoodIn wsX1_sideUp (va_wsSU RX1 7 yX0_sideUp wsX0_sideUp) := goodIn_app (goodIn_of _ (by decide +kernel)) ggX1_sideUp_X0_sideUp
set_option maxRecDepth 20000 in
theorem ggX1_sideUp_X2_isAtEnd : GoodIn wsX1_sideUp wsX2_isAtEnd := goodIn_r _ [14, 15, 16, 52, 53, 54, 55, 56, 57, 58, 59] (by decide +kernel) (by decide +kernel)
set_option maxRecDepth 20000 in
theorem gX1_sideUp_X2_isAtEnd_n11 : GoodIn wsX1_sideUp (wsX2_isAtEnd) := ggX1_sideUp_X2_isAtEnd
theorem dX1_sideUp_0 : decode cX1_sideUp 0 = .ok (.aload_n 0, 1) := by decide +kernel
theorem dX1_sideUp_1 : decode cX1_sideUp 1 = .ok (.aload_n 1, 1) := by decide +kernel
theorem dX1_sideUp_2 : decode cX1_sideUp 2 = .ok (.iload_n 2, 1) := by decide +kernel
theorem dX1_sideUp_3 : decode cX1_sideUp 3 = .ok (.invokespecial 7, 3) := by decide +kernel
theorem dX1_sideUp_6 : decode cX1_sideUp 6 = .ok (.istore_n 3, 1) := by decide +kernel
theorem dX1_sideUp_7 : decode cX1_sideUp 7 = .ok (.aload_n 1, 1) := by decide +kernel
theorem dX1_sideUp_8 : decode cX1_sideUp 8 = .ok (.invokevirtual 11, 3) := by decide +kernel
theorem dX1_sideUp_11 : decode cX1_sideUp 11 = .ok (.ifCond .eq 10, 3) := by decide +kernel
theorem dX1_sideUp_14 : decode cX1_sideUp 14 = .ok (.aload_n 0, 1) := by decide +kernel
theorem dX1_sideUp_15 : decode cX1_sideUp 15 = .ok (.getfield 17, 3) := by decide +kernel
theorem dX1_sideUp_18 : decode cX1_sideUp 18 = .ok (.ifCond .ne 5, 3) := by decide +kernel
theorem dX1_sideUp_21 : decode cX1_sideUp 21 = .ok (.iload_n 3, 1) := by decide +kernel
theorem dX1_sideUp_22 : decode cX1_sideUp 22 = .ok (.ireturn, 1) := by decide +kernel
theorem dX1_sideUp_23 : decode cX1_sideUp 23 = .ok (.aload_n 1, 1) := by decide +kernel
theorem dX1_sideUp_24 : decode cX1_sideUp 24 = .ok (.getfield 23, 3) := by decide +kernel
theorem dX1_sideUp_27 : decode cX1_sideUp 27 = .ok (.aload_n 0, 1) := by decide +kernel
theorem dX1_sideUp_28 : decode cX1_sideUp 28 = .ok (.getfield 17, 3) := by decide +kernel
theorem dX1_sideUp_31 : decode cX1_sideUp 31 = .ok (.idiv, 1) := by decide +kernel
theorem dX1_sideUp_32 : decode cX1_sideUp 32 = .ok (.iconst 2, 1) := by decide +kernel
theorem dX1_sideUp_33 : decode cX1_sideUp 33 = .ok (.irem, 1) := by decide +kernel
theorem dX1_sideUp_34 : decode cX1_sideUp 34 = .ok (.iconst 1, 1) := by decide +kernel
theorem dX1_sideUp_35 : decode cX1_sideUp 35 = .ok (.if_icmp .ne 9, 3) := by decide +kernel
theorem dX1_sideUp_38 : decode cX1_sideUp 38 = .ok (.iconst 1, 1) := by decide +kernel
theorem dX1_sideUp_39 : decode cX1_sideUp 39 = .ok (.iload_n 3, 1) := by decide +kernel
theorem dX1_sideUp_40 : decode cX1_sideUp 40 = .ok (.isub, 1) := by decide +kernel
theorem dX1_sideUp_41 : decode cX1_sideUp 41 = .ok (.goto 4, 3) := by decide +kernel
theorem dX1_sideUp_44 : decode cX1_sideUp 44 = .ok (.iload_n 3, 1) := by decide +kernel
theorem dX1_sideUp_45 : decode cX1_sideUp 45 = .ok (.ireturn, 1) := by decide +kernel
set_option maxRecDepth 20000 in
theorem ggX1_lands_X8_began : GoodIn wsX1_lands wsX8_began := goodIn_r _ [6, 7, 8, 81, 82] (by decide +kernel) (by decide +kernel)
set_option maxRecDepth 20000 in
theorem gX1_lands_X8_began_n26 : GoodIn wsX1_lands (wsX8_began) := ggX1_lands_X8_began
set_option maxRecDepth 20000 in
theorem ggX1_lands_X0_lands : GoodIn wsX1_lands wsX0_lands := goodIn_r _ [14, 3, 4, 5, 6, 7, 8, 15, 16, 17, 18, 19, 20, 21, 22, 23, 24, 25, 26, 27, 28, 29, 30, 31, 32, 33, 34, 35, 36, 37, 38, 39, 40, 41, 42, 43, 44, 45, 81, 82, 46, 47, 48, 49, 50, 51, 52, 53, 54, 55, 56, 57, 58, 59, 60, 61, 62, 63, 64, 65, 66, 67, 68, 69, 70, 71, 72, 73, 74, 75, 76, 77, 78, 79, 80] (by decide +kernel) (by decide +kernel)
set_option maxRecDepth 20000 in
theorem gX1_lands_X0_lands_s32 : GoodIn wsX1_lands (va_wsSU RX1 32 yX0_lands wsX0_lands) := goodIn_app (goodIn_of _ (by decide +kernel)) ggX1_lands_X0_lands
theorem dX1_lands_0 : decode cX1_lands 0 = .ok (.aload_n 2, 1) := by decide +kernel
theorem dX1_lands_1 : decode cX1_lands 1 = .ok (.bipush 61, 2) := by decide +kernel
theorem dX1_lands_3 : decode cX1_lands 3 = .ok (.invokevirtual 26, 3) := by decide +kernel
theorem dX1_lands_6 : decode cX1_lands 6 = .ok (.aload_n 0, 1) := by decide +kernel
theorem dX1_lands_7 : decode cX1_lands 7 = .ok (.iload_n 1, 1) := by decide +kernel
theorem dX1_lands_8 : decode cX1_lands 8 = .ok (.aload_n 2, 1) := by decide +kernel
theorem dX1_lands_9 : decode cX1_lands 9 = .ok (.invokespecial 32, 3) := by decide +kernel
theorem dX1_lands_12 : decode cX1_lands 12 = .ok (.aload_n 0, 1) := by decide +kernel
theorem dX1_lands_13 : decode cX1_lands 13 = .ok (.getfield 17, 3) := by decide +kernel
theorem dX1_lands_16 : decode cX1_lands 16 = .ok (.iadd, 1) := by decide +kernel
theorem dX1_lands_17 : decode cX1_lands 17 = .ok (.ireturn, 1) := by decide +kernel
theorem dX2_init_0 : decode cX2_init 0 = .ok (.aload_n 0, 1) := by decide +kernel
theorem dX2_init_1 : decode cX2_init 1 = .ok (.invokespecial 3, 3) := by decide +kernel
theorem dX2_init_4 : decode cX2_init 4 = .ok (.return_, 1) := by decide +kernel
theorem dX2_isAtEnd_0 : decode cX2_isAtEnd 0 = .ok (.aload_n 0, 1) := by decide +kernel
theorem dX2_isAtEnd_1 : decode cX2_isAtEnd 1 = .ok (.getfield 9, 3) := by decide +kernel
theorem dX2_isAtEnd_4 : decode cX2_isAtEnd 4 = .ok (.aload_n 0, 1) := by decide +kernel
theorem dX2_isAtEnd_5 : decode cX2_isAtEnd 5 = .ok (.getfield 15, 3) := by decide +kernel
theorem dX2_isAtEnd_8 : decode cX2_isAtEnd 8 = .ok (.if_icmp .ne 7, 3) := by decide +kernel
theorem dX2_isAtEnd_11 : decode cX2_isAtEnd 11 = .ok (.iconst 1, 1) := by decide +kernel
theorem dX2_isAtEnd_12 : decode cX2_isAtEnd 12 = .ok (.goto 4, 3) := by decide +kernel
theorem dX2_isAtEnd_15 : decode cX2_isAtEnd 15 = .ok (.iconst 0, 1) := by decide +kernel
theorem dX2_isAtEnd_16 : decode cX2_isAtEnd 16 = .ok (.ireturn, 1) := by decide +kernel
set_option maxRecDepth 20000 in
theorem ggX2_goOn_X2_isTrue : GoodIn wsX2_goOn wsX2_isTrue := goodIn_r _ [12, 13, 14, 15, 11, 16, 17, 18, 19, 20, 1, 21, 22, 23, 24, 25, 26, 27, 28] (by decide +kernel) (by decide +kernel)
set_option maxRecDepth 20000 in
theorem gX2_goOn_X2_isTrue : GoodIn wsX2_goOn (wsV RX2 18 RX2 yX2_isTrue wsX2_isTrue) := goodIn_app (goodIn_of _ (by decide +kernel)) ggX2_goOn_X2_isTrue
theorem dX2_goOn_0 : decode cX2_goOn 0 = .ok (.aload_n 0, 1) := by decide +kernel
theorem dX2_goOn_1 : decode cX2_goOn 1 = .ok (.dup, 1) := by decide +kernel
theorem dX2_goOn_2 : decode cX2_goOn 2 = .ok (.getfield 9, 3) := by decide +kernel
theorem dX2_goOn_5 : decode cX2_goOn 5 = .ok (.iconst 1, 1) := by decide +kernel
theorem dX2_goOn_6 : decode cX2_goOn 6 = .ok (.iadd, 1) := by decide +kernel
theorem dX2_goOn_7 : decode cX2_goOn 7 = .ok (.putfield 9, 3) := by decide +kernel
theorem dX2_goOn_10 : decode cX2_goOn 10 = .ok (.iconst 0, 1) := by decide +kernel
theorem dX2_goOn_11 : decode cX2_goOn 11 = .ok (.istore_n 2, 1) := by decide +kernel
theorem dX2_goOn_12 : decode cX2_goOn 12 = .ok (.iconst 0, 1) := by decide +kernel
theorem dX2_goOn_13 : decode cX2_goOn 13 = .ok (.istore_n 3, 1) := by decide +kernel
theorem dX2_goOn_14 : decode cX2_goOn 14 = .ok (.iconst 0, 1) := by decide +kernel
theorem dX2_goOn_15 : decode cX2_goOn 15 = .ok (.istore 4, 2) := by decide +kernel
theorem dX2_goOn_17 : decode cX2_goOn 17 = .ok (.iconst 0, 1) := by decide +kernel
theorem dX2_goOn_18 : decode cX2_goOn 18 = .ok (.istore 5, 2) := by decide +kernel
theorem dX2_goOn_20 : decode cX2_goOn 20 = .ok (.aload_n 1, 1) := by decide +kernel
theorem dX2_goOn_21 : decode cX2_goOn 21 = .ok (.astore 6, 2) := by decide +kernel
theorem dX2_goOn_23 : decode cX2_goOn 23 = .ok (.aload 6, 2) := by decide +kernel
theorem dX2_goOn_25 : decode cX2_goOn 25 = .ok (.arraylength, 1) := by decide +kernel
theorem dX2_goOn_26 : decode cX2_goOn 26 = .ok (.istore 7, 2) := by decide +kernel
theorem dX2_goOn_28 : decode cX2_goOn 28 = .ok (.iconst 0, 1) := by decide +kernel
theorem dX2_goOn_29 : decode cX2_goOn 29 = .ok (.istore 8, 2) := by decide +kernel
theorem dX2_goOn_31 : decode cX2_goOn 31 = .ok (.iload 8, 2) := by decide +kernel
theorem dX2_goOn_33 : decode cX2_goOn 33 = .ok (.iload 7, 2) := by decide +kernel
theorem dX2_goOn_35 : decode cX2_goOn 35 = .ok (.if_icmp .ge 184, 3) := by decide +kernel
theorem dX2_goOn_38 : decode cX2_goOn 38 = .ok (.aload 6, 2) := by decide +kernel
theorem dX2_goOn_40 : decode cX2_goOn 40 = .ok (.iload 8, 2) := by decide +kernel
theorem dX2_goOn_42 : decode cX2_goOn 42 = .ok (.iaload, 1) := by decide +kernel
theorem dX2_goOn_43 : decode cX2_goOn 43 = .ok (.istore 9, 2) := by decide +kernel
theorem dX2_goOn_45 : decode cX2_goOn 45 = .ok (.iload 9, 2) := by decide +kernel
theorem dX2_goOn_47 : decode cX2_goOn 47 = .ok (.bipush 100, 2) := by decide +kernel
theorem dX2_goOn_49 : decode cX2_goOn 49 = .ok (.idiv, 1) := by decide +kernel
theorem dX2_goOn_50 : decode cX2_goOn 50 = .ok (.istore 10, 2) := by decide +kernel
theorem dX2_goOn_52 : decode cX2_goOn 52 = .ok (.iload 9, 2) := by decide +kernel
theorem dX2_goOn_54 : decode cX2_goOn 54 = .ok (.bipush 100, 2) := by decide +kernel
theorem dX2_goOn_56 : decode cX2_goOn 56 = .ok (.irem, 1) := by decide +kernel
theorem dX2_goOn_57 : decode cX2_goOn 57 = .ok (.istore 11, 2) := by decide +kernel
theorem dX2_goOn_59 : decode cX2_goOn 59 = .ok (.iload 5, 2) := by decide +kernel
theorem dX2_goOn_61 : decode cX2_goOn 61 = .ok (.iconst 1, 1) := by decide +kernel
theorem dX2_goOn_62 : decode cX2_goOn 62 = .ok (.iand, 1) := by decide +kernel
theorem dX2_goOn_63 : decode cX2_goOn 63 = .ok (.istore 12, 2) := by decide +kernel
theorem dX2_goOn_65 : decode cX2_goOn 65 = .ok (.iload 10, 2) := by decide +kernel
theorem dX2_goOn_67 : decode cX2_goOn 67 = .ok (.tableswitch 123 15 20 #[37, 46, 61, 73, 90, 107], 37) := by decide +kernel
theorem dX2_goOn_104 : decode cX2_goOn 104 = .ok (.iload 5, 2) := by decide +kernel
theorem dX2_goOn_106 : decode cX2_goOn 106 = .ok (.iconst 1, 1) := by decide +kernel
theorem dX2_goOn_107 : decode cX2_goOn 107 = .ok (.ixor, 1) := by decide +kernel
theorem dX2_goOn_108 : decode cX2_goOn 108 = .ok (.istore 5, 2) := by decide +kernel
theorem dX2_goOn_110 : decode cX2_goOn 110 = .ok (.goto 103, 3) := by decide +kernel
theorem dX2_goOn_113 : decode cX2_goOn 113 = .ok (.iload 5, 2) := by decide +kernel
theorem dX2_goOn_115 : decode cX2_goOn 115 = .ok (.iconst 1, 1) := by decide +kernel
theorem dX2_goOn_116 : decode cX2_goOn 116 = .ok (.ishr, 1) := by decide +kernel
theorem dX2_goOn_117 : decode cX2_goOn 117 = .ok (.iload 12, 2) := by decide +kernel
theorem dX2_goOn_119 : decode cX2_goOn 119 = .ok (.bipush (-2), 2) := by decide +kernel
theorem dX2_goOn_121 : decode cX2_goOn 121 = .ok (.ior, 1) := by decide +kernel
theorem dX2_goOn_122 : decode cX2_goOn 122 = .ok (.iand, 1) := by decide +kernel
theorem dX2_goOn_123 : decode cX2_goOn 123 = .ok (.istore 5, 2) := by decide +kernel
theorem dX2_goOn_125 : decode cX2_goOn 125 = .ok (.goto 88, 3) := by decide +kernel
theorem dX2_goOn_128 : decode cX2_goOn 128 = .ok (.iload 5, 2) := by decide +kernel
theorem dX2_goOn_130 : decode cX2_goOn 130 = .ok (.iconst 1, 1) := by decide +kernel
theorem dX2_goOn_131 : decode cX2_goOn 131 = .ok (.ishr, 1) := by decide +kernel
theorem dX2_goOn_132 : decode cX2_goOn 132 = .ok (.iload 12, 2) := by decide +kernel
theorem dX2_goOn_134 : decode cX2_goOn 134 = .ok (.ior, 1) := by decide +kernel
theorem dX2_goOn_135 : decode cX2_goOn 135 = .ok (.istore 5, 2) := by decide +kernel
theorem dX2_goOn_137 : decode cX2_goOn 137 = .ok (.goto 76, 3) := by decide +kernel
theorem dX2_goOn_140 : decode cX2_goOn 140 = .ok (.iload_n 2, 1) := by decide +kernel
theorem dX2_goOn_141 : decode cX2_goOn 141 = .ok (.iload 11, 2) := by decide +kernel
theorem dX2_goOn_143 : decode cX2_goOn 143 = .ok (.iload 12, 2) := by decide +kernel
theorem dX2_goOn_145 : decode cX2_goOn 145 = .ok (.imul, 1) := by decide +kernel
theorem dX2_goOn_146 : decode cX2_goOn 146 = .ok (.iadd, 1) := by decide +kernel
theorem dX2_goOn_147 : decode cX2_goOn 147 = .ok (.istore_n 2, 1) := by decide +kernel
theorem dX2_goOn_148 : decode cX2_goOn 148 = .ok (.iload 5, 2) := by decide +kernel
theorem dX2_goOn_150 : decode cX2_goOn 150 = .ok (.iconst 1, 1) := by decide +kernel
theorem dX2_goOn_151 : decode cX2_goOn 151 = .ok (.ishr, 1) := by decide +kernel
theorem dX2_goOn_152 : decode cX2_goOn 152 = .ok (.istore 5, 2) := by decide +kernel
theorem dX2_goOn_154 : decode cX2_goOn 154 = .ok (.goto 59, 3) := by decide +kernel
theorem dX2_goOn_157 : decode cX2_goOn 157 = .ok (.iload_n 3, 1) := by decide +kernel
theorem dX2_goOn_158 : decode cX2_goOn 158 = .ok (.iload 11, 2) := by decide +kernel
theorem dX2_goOn_160 : decode cX2_goOn 160 = .ok (.iload 12, 2) := by decide +kernel
theorem dX2_goOn_162 : decode cX2_goOn 162 = .ok (.imul, 1) := by decide +kernel
theorem dX2_goOn_163 : decode cX2_goOn 163 = .ok (.iadd, 1) := by decide +kernel
theorem dX2_goOn_164 : decode cX2_goOn 164 = .ok (.istore_n 3, 1) := by decide +kernel
theorem dX2_goOn_165 : decode cX2_goOn 165 = .ok (.iload 5, 2) := by decide +kernel
theorem dX2_goOn_167 : decode cX2_goOn 167 = .ok (.iconst 1, 1) := by decide +kernel
theorem dX2_goOn_168 : decode cX2_goOn 168 = .ok (.ishr, 1) := by decide +kernel
theorem dX2_goOn_169 : decode cX2_goOn 169 = .ok (.istore 5, 2) := by decide +kernel
theorem dX2_goOn_171 : decode cX2_goOn 171 = .ok (.goto 42, 3) := by decide +kernel
theorem dX2_goOn_174 : decode cX2_goOn 174 = .ok (.iload 4, 2) := by decide +kernel
theorem dX2_goOn_176 : decode cX2_goOn 176 = .ok (.iload 12, 2) := by decide +kernel
theorem dX2_goOn_178 : decode cX2_goOn 178 = .ok (.iadd, 1) := by decide +kernel
theorem dX2_goOn_179 : decode cX2_goOn 179 = .ok (.istore 4, 2) := by decide +kernel
theorem dX2_goOn_181 : decode cX2_goOn 181 = .ok (.iload 5, 2) := by decide +kernel
theorem dX2_goOn_183 : decode cX2_goOn 183 = .ok (.iconst 1, 1) := by decide +kernel
theorem dX2_goOn_184 : decode cX2_goOn 184 = .ok (.ishr, 1) := by decide +kernel
theorem dX2_goOn_185 : decode cX2_goOn 185 = .ok (.istore 5, 2) := by decide +kernel
theorem dX2_goOn_187 : decode cX2_goOn 187 = .ok (.goto 26, 3) := by decide +kernel
theorem dX2_goOn_190 : decode cX2_goOn 190 = .ok (.iload 5, 2) := by decide +kernel
theorem dX2_goOn_192 : decode cX2_goOn 192 = .ok (.iconst 1, 1) := by decide +kernel
theorem dX2_goOn_193 : decode cX2_goOn 193 = .ok (.ishl, 1) := by decide +kernel
theorem dX2_goOn_194 : decode cX2_goOn 194 = .ok (.aload_n 0, 1) := by decide +kernel
theorem dX2_goOn_195 : decode cX2_goOn 195 = .ok (.iload 10, 2) := by decide +kernel
theorem dX2_goOn_197 : decode cX2_goOn 197 = .ok (.iload 11, 2) := by decide +kernel
theorem dX2_goOn_199 : decode cX2_goOn 199 = .ok (.invokevirtual 18, 3) := by decide +kernel
theorem dX2_goOn_202 : decode cX2_goOn 202 = .ok (.ifCond .eq 7, 3) := by decide +kernel
theorem dX2_goOn_205 : decode cX2_goOn 205 = .ok (.iconst 1, 1) := by decide +kernel
theorem dX2_goOn_206 : decode cX2_goOn 206 = .ok (.goto 4, 3) := by decide +kernel
theorem dX2_goOn_209 : decode cX2_goOn 209 = .ok (.iconst 0, 1) := by decide +kernel
theorem dX2_goOn_210 : decode cX2_goOn 210 = .ok (.ior, 1) := by decide +kernel
theorem dX2_goOn_211 : decode cX2_goOn 211 = .ok (.istore 5, 2) := by decide +kernel
theorem dX2_goOn_213 : decode cX2_goOn 213 = .ok (.iinc 8 1, 3) := by decide +kernel
theorem dX2_goOn_216 : decode cX2_goOn 216 = .ok (.goto (-185), 3) := by decide +kernel
theorem dX2_goOn_219 : decode cX2_goOn 219 = .ok (.iload 4, 2) := by decide +kernel
theorem dX2_goOn_221 : decode cX2_goOn 221 = .ok (.ifCond .ne 16, 3) := by decide +kernel
theorem dX2_goOn_224 : decode cX2_goOn 224 = .ok (.aload_n 0, 1) := by decide +kernel
theorem dX2_goOn_225 : decode cX2_goOn 225 = .ok (.aload_n 0, 1) := by decide +kernel
theorem dX2_goOn_226 : decode cX2_goOn 226 = .ok (.getfield 22, 3) := by decide +kernel
theorem dX2_goOn_229 : decode cX2_goOn 229 = .ok (.iload_n 2, 1) := by decide +kernel
theorem dX2_goOn_230 : decode cX2_goOn 230 = .ok (.iadd, 1) := by decide +kernel
theorem dX2_goOn_231 : decode cX2_goOn 231 = .ok (.bipush 100, 2) := by decide +kernel
theorem dX2_goOn_233 : decode cX2_goOn 233 = .ok (.irem, 1) := by decide +kernel
theorem dX2_goOn_234 : decode cX2_goOn 234 = .ok (.putfield 22, 3) := by decide +kernel
theorem dX2_goOn_237 : decode cX2_goOn 237 = .ok (.aload_n 0, 1) := by decide +kernel
theorem dX2_goOn_238 : decode cX2_goOn 238 = .ok (.iload_n 3, 1) := by decide +kernel
theorem dX2_goOn_239 : decode cX2_goOn 239 = .ok (.bipush 49, 2) := by decide +kernel
theorem dX2_goOn_241 : decode cX2_goOn 241 = .ok (.invokestatic 25, 3) := by decide +kernel
theorem dX2_goOn_244 : decode cX2_goOn 244 = .ok (.putfield 31, 3) := by decide +kernel
theorem dX2_goOn_247 : decode cX2_goOn 247 = .ok (.return_, 1) := by decide +kernel
set_option maxRecDepth 20000 in
theorem ggX2_isTrue_X2_valueOf : GoodIn wsX2_isTrue wsX2_valueOf := goodIn_r _ [5, 6, 7, 8, 9, 10, 11, 12, 13, 14, 15, 16, 17, 18] (by decide +kernel) (by decide +kernel)
set_option maxRecDepth 20000 in
theorem gX2_isTrue_X2_valueOf : GoodIn wsX2_isTrue (wsV RX2 34 RX2 yX2_valueOf wsX2_valueOf) := goodIn_app (goodIn_of _ (by decide +kernel)) ggX2_isTrue_X2_valueOf
theorem dX2_isTrue_0 : decode cX2_isTrue 0 = .ok (.aload_n 0, 1) := by decide +kernel
theorem dX2_isTrue_1 : decode cX2_isTrue 1 = .ok (.iload_n 1, 1) := by decide +kernel
theorem dX2_isTrue_2 : decode cX2_isTrue 2 = .ok (.iconst 3, 1) := by decide +kernel
theorem dX2_isTrue_3 : decode cX2_isTrue 3 = .ok (.idiv, 1) := by decide +kernel
theorem dX2_isTrue_4 : decode cX2_isTrue 4 = .ok (.invokevirtual 34, 3) := by decide +kernel
theorem dX2_isTrue_7 : decode cX2_isTrue 7 = .ok (.istore_n 3, 1) := by decide +kernel
theorem dX2_isTrue_8 : decode cX2_isTrue 8 = .ok (.iload_n 1, 1) := by decide +kernel
theorem dX2_isTrue_9 : decode cX2_isTrue 9 = .ok (.iconst 3, 1) := by decide +kernel
theorem dX2_isTrue_10 : decode cX2_isTrue 10 = .ok (.irem, 1) := by decide +kernel
theorem dX2_isTrue_11 : decode cX2_isTrue 11 = .ok (.lookupswitch 47 #[(0, 25), (1, 36)], 25) := by decide +kernel
theorem dX2_isTrue_36 : decode cX2_isTrue 36 = .ok (.iload_n 3, 1) := by decide +kernel
theorem dX2_isTrue_37 : decode cX2_isTrue 37 = .ok (.iload_n 2, 1) := by decide +kernel
theorem dX2_isTrue_38 : decode cX2_isTrue 38 = .ok (.if_icmp .ge 7, 3) := by decide +kernel
theorem dX2_isTrue_41 : decode cX2_isTrue 41 = .ok (.iconst 1, 1) := by decide +kernel
theorem dX2_isTrue_42 : decode cX2_isTrue 42 = .ok (.goto 4, 3) := by decide +kernel
theorem dX2_isTrue_45 : decode cX2_isTrue 45 = .ok (.iconst 0, 1) := by decide +kernel
theorem dX2_isTrue_46 : decode cX2_isTrue 46 = .ok (.ireturn, 1) := by decide +kernel
theorem dX2_isTrue_47 : decode cX2_isTrue 47 = .ok (.iload_n 3, 1) := by decide +kernel
theorem dX2_isTrue_48 : decode cX2_isTrue 48 = .ok (.iload_n 2, 1) := by decide +kernel
theorem dX2_isTrue_49 : decode cX2_isTrue 49 = .ok (.if_icmp .ne 7, 3) := by decide +kernel
theorem dX2_isTrue_52 : decode cX2_isTrue 52 = .ok (.iconst 1, 1) := by decide +kernel
theorem dX2_isTrue_53 : decode cX2_isTrue 53 = .ok (.goto 4, 3) := by decide +kernel
theorem dX2_isTrue_56 : decode cX2_isTrue 56 = .ok (.iconst 0, 1) := by decide +kernel
theorem dX2_isTrue_57 : decode cX2_isTrue 57 = .ok (.ireturn, 1) := by decide +kernel
theorem dX2_isTrue_58 : decode cX2_isTrue 58 = .ok (.iload_n 3, 1) := by decide +kernel
theorem dX2_isTrue_59 : decode cX2_isTrue 59 = .ok (.iload_n 2, 1) := by decide +kernel
theorem dX2_isTrue_60 : decode cX2_isTrue 60 = .ok (.if_icmp .le 7, 3) := by decide +kernel
theorem dX2_isTrue_63 : decode cX2_isTrue 63 = .ok (.iconst 1, 1) := by decide +kernel
theorem dX2_isTrue_64 : decode cX2_isTrue 64 = .ok (.goto 4, 3) := by decide +kernel
theorem dX2_isTrue_67 : decode cX2_isTrue 67 = .ok (.iconst 0, 1) := by decide +kernel
theorem dX2_isTrue_68 : decode cX2_isTrue 68 = .ok (.ireturn, 1) := by decide +kernel
theorem dX2_valueOf_0 : decode cX2_valueOf 0 = .ok (.iload_n 1, 1) := by decide +kernel
theorem dX2_valueOf_1 : decode cX2_valueOf 1 = .ok (.tableswitch 51 0 3 #[31, 36, 41, 46], 31) := by decide +kernel
theorem dX2_valueOf_32 : decode cX2_valueOf 32 = .ok (.aload_n 0, 1) := by decide +kernel
theorem dX2_valueOf_33 : decode cX2_valueOf 33 = .ok (.getfield 38, 3) := by decide +kernel
theorem dX2_valueOf_36 : decode cX2_valueOf 36 = .ok (.ireturn, 1) := by decide +kernel
theorem dX2_valueOf_37 : decode cX2_valueOf 37 = .ok (.aload_n 0, 1) := by decide +kernel
theorem dX2_valueOf_38 : decode cX2_valueOf 38 = .ok (.getfield 41, 3) := by decide +kernel
theorem dX2_valueOf_41 : decode cX2_valueOf 41 = .ok (.ireturn, 1) := by decide +kernel
theorem dX2_valueOf_42 : decode cX2_valueOf 42 = .ok (.aload_n 0, 1) := by decide +kernel
theorem dX2_valueOf_43 : decode cX2_valueOf 43 = .ok (.getfield 44, 3) := by decide +kernel
theorem dX2_valueOf_46 : decode cX2_valueOf 46 = .ok (.ireturn, 1) := by decide +kernel
theorem dX2_valueOf_47 : decode cX2_valueOf 47 = .ok (.aload_n 0, 1) := by decide +kernel
theorem dX2_valueOf_48 : decode cX2_valueOf 48 = .ok (.getfield 47, 3) := by decide +kernel
theorem dX2_valueOf_51 : decode cX2_valueOf 51 = .ok (.ireturn, 1) := by decide +kernel
theorem dX2_valueOf_52 : decode cX2_valueOf 52 = .ok (.aload_n 0, 1) := by decide +kernel
theorem dX2_valueOf_53 : decode cX2_valueOf 53 = .ok (.getfield 9, 3) := by decide +kernel
theorem dX2_valueOf_56 : decode cX2_valueOf 56 = .ok (.ireturn, 1) := by decide +kernel
theorem dX3_init_0 : decode cX3_init 0 = .ok (.aload_n 0, 1) := by decide +kernel
theorem dX3_init_1 : decode cX3_init 1 = .ok (.invokespecial 3, 3) := by decide +kernel
theorem dX3_init_4 : decode cX3_init 4 = .ok (.aload_n 0, 1) := by decide +kernel
theorem dX3_init_5 : decode cX3_init 5 = .ok (.iconst 0, 1) := by decide +kernel
theorem dX3_init_6 : decode cX3_init 6 = .ok (.newarray .int, 2) := by decide +kernel
theorem dX3_init_8 : decode cX3_init 8 = .ok (.putfield 9, 3) := by decide +kernel
theorem dX3_init_11 : decode cX3_init 11 = .ok (.aload_n 0, 1) := by decide +kernel
theorem dX3_init_12 : decode cX3_init 12 = .ok (.bipush 120, 2) := by decide +kernel
theorem dX3_init_14 : decode cX3_init 14 = .ok (.newarray .int, 2) := by decide +kernel
theorem dX3_init_16 : decode cX3_init 16 = .ok (.putfield 15, 3) := by decide +kernel
theorem dX3_init_19 : decode cX3_init 19 = .ok (.return_, 1) := by decide +kernel
set_option maxRecDepth 20000 in
theorem ggX3_reads_X3_passes : GoodIn wsX3_reads wsX3_passes := goodIn_r _ [14, 7, 15, 16, 17, 13, 18, 6, 1, 159, 160, 161, 162, 163, 164, 165] (by decide +kernel) (by decide +kernel)
set_option maxRecDepth 20000 in
theorem gX3_reads_X3_passes : GoodIn wsX3_reads (wsV RX3 37 RX3 yX3_passes wsX3_passes) := goodIn_app (goodIn_of _ (by decide +kernel)) ggX3_reads_X3_passes
set_option maxRecDepth 20000 in
theorem ggX3_reads_X3_readsClause : GoodIn wsX3_reads wsX3_readsClause := goodIn_r _ [22, 23, 9, 10, 11, 12, 13, 14, 7, 15, 16, 17, 18, 6, 1, 24, 25, 26, 27, 28, 29, 30, 31, 32, 33, 34, 35, 36, 37, 38, 39, 40, 41, 42, 43, 44, 45, 46, 47, 48, 49, 50, 51, 52, 53, 54, 55, 56, 57, 58, 59, 60, 61, 62, 63, 64, 65, 66, 67, 68, 69, 70, 71, 72, 73, 74, 75, 76, 77, 78, 79, 80, 81, 82, 83, 84, 85, 86, 87, 8, 88, 89, 90, 91, 92, 93, 94, 95, 96, 97, 98, 99, 100, 101, 102, 103, 104, 105, 106, 107, 4, 108, 109, 3, 5, 110, 111, 112, 113, 114, 115, 116, 117, 118, 119, 120, 121, 122, 123, 124, 125, 126, 127, 128, 129, 130, 131, 132, 133, 134, 135, 136, 137, 138, 139, 140, 141, 142, 143, 144, 145, 146, 147, 148, 149, 150, 151, 152, 153, 154, 155, 156, 157, 158, 159, 160, 161, 162, 163, 164, 165] (by decide +kernel) (by decide +kernel)
set_option maxRecDepth 20000 in
theorem gX3_reads_X3_readsClause : GoodIn wsX3_reads (wsV RX3 41 RX3 yX3_readsClause wsX3_readsClause) := goodIn_app (goodIn_of _ (by decide +kernel)) ggX3_reads_X3_readsClause
theorem dX3_reads_0 : decode cX3_reads 0 = .ok (.aload_n 0, 1) := by decide +kernel
theorem dX3_reads_1 : decode cX3_reads 1 = .ok (.aload_n 1, 1) := by decide +kernel
theorem dX3_reads_2 : decode cX3_reads 2 = .ok (.putfield 9, 3) := by decide +kernel
theorem dX3_reads_5 : decode cX3_reads 5 = .ok (.aload_n 0, 1) := by decide +kernel
theorem dX3_reads_6 : decode cX3_reads 6 = .ok (.iload_n 2, 1) := by decide +kernel
theorem dX3_reads_7 : decode cX3_reads 7 = .ok (.aload_n 1, 1) := by decide +kernel
theorem dX3_reads_8 : decode cX3_reads 8 = .ok (.arraylength, 1) := by decide +kernel
theorem dX3_reads_9 : decode cX3_reads 9 = .ok (.invokestatic 18, 3) := by decide +kernel
theorem dX3_reads_12 : decode cX3_reads 12 = .ok (.putfield 24, 3) := by decide +kernel
theorem dX3_reads_15 : decode cX3_reads 15 = .ok (.aload_n 0, 1) := by decide +kernel
theorem dX3_reads_16 : decode cX3_reads 16 = .ok (.iconst 0, 1) := by decide +kernel
theorem dX3_reads_17 : decode cX3_reads 17 = .ok (.putfield 28, 3) := by decide +kernel
theorem dX3_reads_20 : decode cX3_reads 20 = .ok (.aload_n 0, 1) := by decide +kernel
theorem dX3_reads_21 : decode cX3_reads 21 = .ok (.iconst 0, 1) := by decide +kernel
theorem dX3_reads_22 : decode cX3_reads 22 = .ok (.putfield 31, 3) := by decide +kernel
theorem dX3_reads_25 : decode cX3_reads 25 = .ok (.aload_n 0, 1) := by decide +kernel
theorem dX3_reads_26 : decode cX3_reads 26 = .ok (.iconst 0, 1) := by decide +kernel
theorem dX3_reads_27 : decode cX3_reads 27 = .ok (.putfield 34, 3) := by decide +kernel
theorem dX3_reads_30 : decode cX3_reads 30 = .ok (.iconst 0, 1) := by decide +kernel
theorem dX3_reads_31 : decode cX3_reads 31 = .ok (.istore_n 3, 1) := by decide +kernel
theorem dX3_reads_32 : decode cX3_reads 32 = .ok (.iload_n 3, 1) := by decide +kernel
theorem dX3_reads_33 : decode cX3_reads 33 = .ok (.bipush 8, 2) := by decide +kernel
theorem dX3_reads_35 : decode cX3_reads 35 = .ok (.if_icmp .ge 46, 3) := by decide +kernel
theorem dX3_reads_38 : decode cX3_reads 38 = .ok (.iload_n 3, 1) := by decide +kernel
theorem dX3_reads_39 : decode cX3_reads 39 = .ok (.ifCond .le 14, 3) := by decide +kernel
theorem dX3_reads_42 : decode cX3_reads 42 = .ok (.aload_n 0, 1) := by decide +kernel
theorem dX3_reads_43 : decode cX3_reads 43 = .ok (.bipush 59, 2) := by decide +kernel
theorem dX3_reads_45 : decode cX3_reads 45 = .ok (.invokevirtual 37, 3) := by decide +kernel
theorem dX3_reads_48 : decode cX3_reads 48 = .ok (.ifCond .ne 5, 3) := by decide +kernel
theorem dX3_reads_51 : decode cX3_reads 51 = .ok (.iconst 0, 1) := by decide +kernel
theorem dX3_reads_52 : decode cX3_reads 52 = .ok (.ireturn, 1) := by decide +kernel
theorem dX3_reads_53 : decode cX3_reads 53 = .ok (.aload_n 0, 1) := by decide +kernel
theorem dX3_reads_54 : decode cX3_reads 54 = .ok (.invokevirtual 41, 3) := by decide +kernel
theorem dX3_reads_57 : decode cX3_reads 57 = .ok (.ifCond .ne 5, 3) := by decide +kernel
theorem dX3_reads_60 : decode cX3_reads 60 = .ok (.iconst 0, 1) := by decide +kernel
theorem dX3_reads_61 : decode cX3_reads 61 = .ok (.ireturn, 1) := by decide +kernel
theorem dX3_reads_62 : decode cX3_reads 62 = .ok (.aload_n 0, 1) := by decide +kernel
theorem dX3_reads_63 : decode cX3_reads 63 = .ok (.getfield 28, 3) := by decide +kernel
theorem dX3_reads_66 : decode cX3_reads 66 = .ok (.aload_n 0, 1) := by decide +kernel
theorem dX3_reads_67 : decode cX3_reads 67 = .ok (.getfield 24, 3) := by decide +kernel
theorem dX3_reads_70 : decode cX3_reads 70 = .ok (.if_icmp .lt 5, 3) := by decide +kernel
theorem dX3_reads_73 : decode cX3_reads 73 = .ok (.iconst 1, 1) := by decide +kernel
theorem dX3_reads_74 : decode cX3_reads 74 = .ok (.ireturn, 1) := by decide +kernel
theorem dX3_reads_75 : decode cX3_reads 75 = .ok (.iinc 3 1, 3) := by decide +kernel
theorem dX3_reads_78 : decode cX3_reads 78 = .ok (.goto (-46), 3) := by decide +kernel
theorem dX3_reads_81 : decode cX3_reads 81 = .ok (.iconst 0, 1) := by decide +kernel
theorem dX3_reads_82 : decode cX3_reads 82 = .ok (.ireturn, 1) := by decide +kernel
set_option maxRecDepth 20000 in
theorem ggX3_readsClause_X3_passes : GoodIn wsX3_readsClause wsX3_passes := goodIn_r _ [7, 8, 9, 10, 11, 6, 12, 13, 14, 154, 155, 156, 157, 158, 159, 160] (by decide +kernel) (by decide +kernel)
set_option maxRecDepth 20000 in
theorem gX3_readsClause_X3_passes : GoodIn wsX3_readsClause (wsV RX3 37 RX3 yX3_passes wsX3_passes) := goodIn_app (goodIn_of _ (by decide +kernel)) ggX3_readsClause_X3_passes
set_option maxRecDepth 20000 in
theorem ggX3_readsClause_X3_passesAll : GoodIn wsX3_readsClause wsX3_passesAll := goodIn_r _ [18, 19, 20, 21, 22, 23, 24, 25, 26, 27, 28, 29, 30, 31, 32, 33, 34, 35, 36, 37, 38, 39, 40, 41, 42, 43, 44, 45, 46, 47, 48, 49, 50, 51, 52, 53, 54, 55, 56, 57, 58, 59, 60, 61, 62, 63, 64, 65, 66, 67, 3, 4, 5, 6, 7, 8, 9, 10, 11, 12, 13, 14, 154, 155, 156, 157, 158, 159, 160] (by decide +kernel) (by decide +kernel)
set_option maxRecDepth 20000 in
theorem gX3_readsClause_X3_passesAll : GoodIn wsX3_readsClause (wsV RX3 47 RX3 yX3_passesAll wsX3_passesAll) := goodIn_app (goodIn_of _ (by decide +kernel)) ggX3_readsClause_X3_passesAll
set_option maxRecDepth 20000 in
theorem ggX3_readsClause_X3_readsAny : GoodIn wsX3_readsClause wsX3_readsAny := goodIn_r _ [71, 13, 72, 73, 74, 6, 3, 4, 5, 7, 8, 9, 10, 11, 12, 14, 75, 76, 77, 78, 79, 80, 81, 82, 83, 84, 85, 1, 68, 69, 70, 86, 87, 88, 22, 89, 90, 91, 92, 93, 24, 35, 36, 37, 38, 29, 30, 94, 20, 21, 23, 25, 26, 27, 28, 95, 96, 41, 97, 98, 99, 100, 101, 102, 103, 104, 105, 106, 107, 108, 109, 110, 111, 112, 53, 113, 114, 115, 116, 117, 118, 119, 120, 121, 122, 58, 59, 60, 123, 124, 125, 46, 126, 127, 49, 128, 129, 130, 131, 62, 63, 64, 65, 66, 67, 132, 133, 134, 135, 136, 137, 138, 139, 140, 141, 142, 143, 144, 145, 146, 147, 148, 149, 150, 151, 152, 153, 154, 155, 156, 157, 158, 159, 160] (by decide +kernel) (by decide +kernel)
set_option maxRecDepth 20000 in
theorem gX3_readsClause_X3_readsAny : GoodIn wsX3_readsClause (wsV RX3 51 RX3 yX3_readsAny wsX3_readsAny) := goodIn_app (goodIn_of _ (by decide +kernel)) ggX3_readsClause_X3_readsAny
set_option maxRecDepth 20000 in
theorem ggX3_readsClause_X3_adds : GoodIn wsX3_readsClause wsX3_adds := goodIn_r _ [78, 79, 80, 154, 155, 156, 157, 158, 159, 160] (by decide +kernel) (by decide +kernel)
set_option maxRecDepth 20000 in
theorem gX3_readsClause_X3_adds : GoodIn wsX3_readsClause (wsV RX3 55 RX3 yX3_adds wsX3_adds) := goodIn_app (goodIn_of _ (by decide +kernel)) ggX3_readsClause_X3_adds
set_option maxRecDepth 20000 in
theorem ggX3_readsClause_X3_readsNumber : GoodIn wsX3_readsClause wsX3_readsNumber := goodIn_r _ [150, 8, 1, 9, 10, 11, 6, 12, 13, 14, 151, 152, 153, 154, 155, 156, 157, 158, 159, 160] (by decide +kernel) (by decide +kernel)
set_option maxRecDepth 20000 in
theorem gX3_readsClause_X3_readsNumber : GoodIn wsX3_readsClause (wsV RX3 61 RX3 yX3_readsNumber wsX3_readsNumber) := goodIn_app (goodIn_of _ (by decide +kernel)) ggX3_readsClause_X3_readsNumber
theorem dX3_readsClause_0 : decode cX3_readsClause 0 = .ok (.aload_n 0, 1) := by decide +kernel
theorem dX3_readsClause_1 : decode cX3_readsClause 1 = .ok (.bipush 115, 2) := by decide +kernel
theorem dX3_readsClause_3 : decode cX3_readsClause 3 = .ok (.invokevirtual 37, 3) := by decide +kernel
theorem dX3_readsClause_6 : decode cX3_readsClause 6 = .ok (.ifCond .eq 36, 3) := by decide +kernel
theorem dX3_readsClause_9 : decode cX3_readsClause 9 = .ok (.aload_n 0, 1) := by decide +kernel
theorem dX3_readsClause_10 : decode cX3_readsClause 10 = .ok (.ldc 45, 2) := by decide +kernel
theorem dX3_readsClause_12 : decode cX3_readsClause 12 = .ok (.invokevirtual 47, 3) := by decide +kernel
theorem dX3_readsClause_15 : decode cX3_readsClause 15 = .ok (.ifCond .eq 25, 3) := by decide +kernel
theorem dX3_readsClause_18 : decode cX3_readsClause 18 = .ok (.aload_n 0, 1) := by decide +kernel
theorem dX3_readsClause_19 : decode cX3_readsClause 19 = .ok (.iconst 0, 1) := by decide +kernel
theorem dX3_readsClause_20 : decode cX3_readsClause 20 = .ok (.invokevirtual 51, 3) := by decide +kernel
theorem dX3_readsClause_23 : decode cX3_readsClause 23 = .ok (.ifCond .eq 17, 3) := by decide +kernel
theorem dX3_readsClause_26 : decode cX3_readsClause 26 = .ok (.aload_n 0, 1) := by decide +kernel
theorem dX3_readsClause_27 : decode cX3_readsClause 27 = .ok (.bipush 20, 2) := by decide +kernel
theorem dX3_readsClause_29 : decode cX3_readsClause 29 = .ok (.iconst 0, 1) := by decide +kernel
theorem dX3_readsClause_30 : decode cX3_readsClause 30 = .ok (.invokevirtual 55, 3) := by decide +kernel
theorem dX3_readsClause_33 : decode cX3_readsClause 33 = .ok (.ifCond .eq 7, 3) := by decide +kernel
theorem dX3_readsClause_36 : decode cX3_readsClause 36 = .ok (.iconst 1, 1) := by decide +kernel
theorem dX3_readsClause_37 : decode cX3_readsClause 37 = .ok (.goto 4, 3) := by decide +kernel
theorem dX3_readsClause_40 : decode cX3_readsClause 40 = .ok (.iconst 0, 1) := by decide +kernel
theorem dX3_readsClause_41 : decode cX3_readsClause 41 = .ok (.ireturn, 1) := by decide +kernel
theorem dX3_readsClause_42 : decode cX3_readsClause 42 = .ok (.aload_n 0, 1) := by decide +kernel
theorem dX3_readsClause_43 : decode cX3_readsClause 43 = .ok (.bipush 99, 2) := by decide +kernel
theorem dX3_readsClause_45 : decode cX3_readsClause 45 = .ok (.invokevirtual 37, 3) := by decide +kernel
theorem dX3_readsClause_48 : decode cX3_readsClause 48 = .ok (.ifCond .eq 31, 3) := by decide +kernel
theorem dX3_readsClause_51 : decode cX3_readsClause 51 = .ok (.aload_n 0, 1) := by decide +kernel
theorem dX3_readsClause_52 : decode cX3_readsClause 52 = .ok (.ldc 59, 2) := by decide +kernel
theorem dX3_readsClause_54 : decode cX3_readsClause 54 = .ok (.invokevirtual 47, 3) := by decide +kernel
theorem dX3_readsClause_57 : decode cX3_readsClause 57 = .ok (.ifCond .eq 10, 3) := by decide +kernel
theorem dX3_readsClause_60 : decode cX3_readsClause 60 = .ok (.aload_n 0, 1) := by decide +kernel
theorem dX3_readsClause_61 : decode cX3_readsClause 61 = .ok (.invokevirtual 61, 3) := by decide +kernel
theorem dX3_readsClause_64 : decode cX3_readsClause 64 = .ok (.ifCond .ne 5, 3) := by decide +kernel
theorem dX3_readsClause_67 : decode cX3_readsClause 67 = .ok (.iconst 0, 1) := by decide +kernel
theorem dX3_readsClause_68 : decode cX3_readsClause 68 = .ok (.ireturn, 1) := by decide +kernel
theorem dX3_readsClause_69 : decode cX3_readsClause 69 = .ok (.aload_n 0, 1) := by decide +kernel
theorem dX3_readsClause_70 : decode cX3_readsClause 70 = .ok (.aload_n 0, 1) := by decide +kernel
theorem dX3_readsClause_71 : decode cX3_readsClause 71 = .ok (.getfield 64, 3) := by decide +kernel
theorem dX3_readsClause_74 : decode cX3_readsClause 74 = .ok (.putfield 34, 3) := by decide +kernel
theorem dX3_readsClause_77 : decode cX3_readsClause 77 = .ok (.iconst 1, 1) := by decide +kernel
theorem dX3_readsClause_78 : decode cX3_readsClause 78 = .ok (.ireturn, 1) := by decide +kernel
theorem dX3_readsClause_79 : decode cX3_readsClause 79 = .ok (.aload_n 0, 1) := by decide +kernel
theorem dX3_readsClause_80 : decode cX3_readsClause 80 = .ok (.bipush 116, 2) := by decide +kernel
theorem dX3_readsClause_82 : decode cX3_readsClause 82 = .ok (.invokevirtual 37, 3) := by decide +kernel
theorem dX3_readsClause_85 : decode cX3_readsClause 85 = .ok (.ifCond .eq 8, 3) := by decide +kernel
theorem dX3_readsClause_88 : decode cX3_readsClause 88 = .ok (.bipush 18, 2) := by decide +kernel
theorem dX3_readsClause_90 : decode cX3_readsClause 90 = .ok (.goto 5, 3) := by decide +kernel
theorem dX3_readsClause_93 : decode cX3_readsClause 93 = .ok (.bipush 19, 2) := by decide +kernel
theorem dX3_readsClause_95 : decode cX3_readsClause 95 = .ok (.istore_n 1, 1) := by decide +kernel
theorem dX3_readsClause_96 : decode cX3_readsClause 96 = .ok (.aload_n 0, 1) := by decide +kernel
theorem dX3_readsClause_97 : decode cX3_readsClause 97 = .ok (.iload_n 1, 1) := by decide +kernel
theorem dX3_readsClause_98 : decode cX3_readsClause 98 = .ok (.bipush 18, 2) := by decide +kernel
theorem dX3_readsClause_100 : decode cX3_readsClause 100 = .ok (.if_icmp .ne 8, 3) := by decide +kernel
theorem dX3_readsClause_103 : decode cX3_readsClause 103 = .ok (.ldc 67, 2) := by decide +kernel
theorem dX3_readsClause_105 : decode cX3_readsClause 105 = .ok (.goto 5, 3) := by decide +kernel
theorem dX3_readsClause_108 : decode cX3_readsClause 108 = .ok (.ldc 69, 2) := by decide +kernel
theorem dX3_readsClause_110 : decode cX3_readsClause 110 = .ok (.invokevirtual 47, 3) := by decide +kernel
theorem dX3_readsClause_113 : decode cX3_readsClause 113 = .ok (.ifCond .eq 19, 3) := by decide +kernel
theorem dX3_readsClause_116 : decode cX3_readsClause 116 = .ok (.aload_n 0, 1) := by decide +kernel
theorem dX3_readsClause_117 : decode cX3_readsClause 117 = .ok (.invokevirtual 61, 3) := by decide +kernel
theorem dX3_readsClause_120 : decode cX3_readsClause 120 = .ok (.ifCond .eq 12, 3) := by decide +kernel
theorem dX3_readsClause_123 : decode cX3_readsClause 123 = .ok (.aload_n 0, 1) := by decide +kernel
theorem dX3_readsClause_124 : decode cX3_readsClause 124 = .ok (.bipush 32, 2) := by decide +kernel
theorem dX3_readsClause_126 : decode cX3_readsClause 126 = .ok (.invokevirtual 37, 3) := by decide +kernel
theorem dX3_readsClause_129 : decode cX3_readsClause 129 = .ok (.ifCond .ne 5, 3) := by decide +kernel
theorem dX3_readsClause_132 : decode cX3_readsClause 132 = .ok (.iconst 0, 1) := by decide +kernel
theorem dX3_readsClause_133 : decode cX3_readsClause 133 = .ok (.ireturn, 1) := by decide +kernel
theorem dX3_readsClause_134 : decode cX3_readsClause 134 = .ok (.aload_n 0, 1) := by decide +kernel
theorem dX3_readsClause_135 : decode cX3_readsClause 135 = .ok (.getfield 64, 3) := by decide +kernel
theorem dX3_readsClause_138 : decode cX3_readsClause 138 = .ok (.istore_n 2, 1) := by decide +kernel
theorem dX3_readsClause_139 : decode cX3_readsClause 139 = .ok (.aload_n 0, 1) := by decide +kernel
theorem dX3_readsClause_140 : decode cX3_readsClause 140 = .ok (.iconst 0, 1) := by decide +kernel
theorem dX3_readsClause_141 : decode cX3_readsClause 141 = .ok (.invokevirtual 51, 3) := by decide +kernel
theorem dX3_readsClause_144 : decode cX3_readsClause 144 = .ok (.ifCond .eq 16, 3) := by decide +kernel
theorem dX3_readsClause_147 : decode cX3_readsClause 147 = .ok (.aload_n 0, 1) := by decide +kernel
theorem dX3_readsClause_148 : decode cX3_readsClause 148 = .ok (.iload_n 1, 1) := by decide +kernel
theorem dX3_readsClause_149 : decode cX3_readsClause 149 = .ok (.iload_n 2, 1) := by decide +kernel
theorem dX3_readsClause_150 : decode cX3_readsClause 150 = .ok (.invokevirtual 55, 3) := by decide +kernel
theorem dX3_readsClause_153 : decode cX3_readsClause 153 = .ok (.ifCond .eq 7, 3) := by decide +kernel
theorem dX3_readsClause_156 : decode cX3_readsClause 156 = .ok (.iconst 1, 1) := by decide +kernel
theorem dX3_readsClause_157 : decode cX3_readsClause 157 = .ok (.goto 4, 3) := by decide +kernel
theorem dX3_readsClause_160 : decode cX3_readsClause 160 = .ok (.iconst 0, 1) := by decide +kernel
theorem dX3_readsClause_161 : decode cX3_readsClause 161 = .ok (.ireturn, 1) := by decide +kernel
set_option maxRecDepth 20000 in
theorem ggX3_readsAny_X3_readsAll : GoodIn wsX3_readsAny wsX3_readsAll := goodIn_r _ [22, 1, 23, 24, 25, 5, 6, 7, 8, 9, 10, 11, 12, 13, 14, 15, 16, 17, 18, 19, 20, 21, 0, 2, 3, 4, 26, 27, 28, 29, 30, 31, 32, 33, 34, 35, 36, 37, 38, 39, 40, 41, 42, 43, 44, 45, 46, 47, 48, 49, 50, 51, 52, 53, 54, 55, 56, 57, 58, 59, 60, 61, 62, 63, 64, 65, 66, 67, 68, 69, 70, 71, 72, 73, 74, 75, 76, 77, 78, 79, 80, 81, 82, 83, 84, 85, 86, 87, 88, 89, 90, 91, 92, 93, 94, 95, 96, 97, 98, 99, 100, 101, 102, 103, 104, 105, 106, 107, 108, 109, 110, 111, 112, 113, 114, 115, 116, 117, 118, 119, 120, 121, 122, 123, 124, 125, 126, 127, 128, 129, 130, 131, 132, 133] (by decide +kernel) (by decide +kernel)
set_option maxRecDepth 20000 in
theorem gX3_readsAny_X3_readsAll : GoodIn wsX3_readsAny (wsV RX3 71 RX3 yX3_readsAll wsX3_readsAll) := goodIn_app (goodIn_of _ (by decide +kernel)) ggX3_readsAny_X3_readsAll
set_option maxRecDepth 20000 in
theorem ggX3_readsAny_X3_passes : GoodIn wsX3_readsAny wsX3_passes := goodIn_r _ [9, 10, 11, 12, 13, 5, 14, 1, 15, 127, 128, 129, 130, 131, 132, 133] (by decide +kernel) (by decide +kernel)
set_option maxRecDepth 20000 in
theorem gX3_readsAny_X3_passes : GoodIn wsX3_readsAny (wsV RX3 37 RX3 yX3_passes wsX3_passes) := goodIn_app (goodIn_of _ (by decide +kernel)) ggX3_readsAny_X3_passes
set_option maxRecDepth 20000 in
theorem ggX3_readsAny_X3_adds : GoodIn wsX3_readsAny wsX3_adds := goodIn_r _ [19, 20, 21, 127, 128, 129, 130, 131, 132, 133] (by decide +kernel) (by decide +kernel)
set_option maxRecDepth 20000 in
theorem gX3_readsAny_X3_adds : GoodIn wsX3_readsAny (wsV RX3 55 RX3 yX3_adds wsX3_adds) := goodIn_app (goodIn_of _ (by decide +kernel)) ggX3_readsAny_X3_adds
theorem dX3_readsAny_0 : decode cX3_readsAny 0 = .ok (.aload_n 0, 1) := by decide +kernel
theorem dX3_readsAny_1 : decode cX3_readsAny 1 = .ok (.iload_n 1, 1) := by decide +kernel
theorem dX3_readsAny_2 : decode cX3_readsAny 2 = .ok (.invokevirtual 71, 3) := by decide +kernel
theorem dX3_readsAny_5 : decode cX3_readsAny 5 = .ok (.istore_n 2, 1) := by decide +kernel
theorem dX3_readsAny_6 : decode cX3_readsAny 6 = .ok (.iconst 0, 1) := by decide +kernel
theorem dX3_readsAny_7 : decode cX3_readsAny 7 = .ok (.istore_n 3, 1) := by decide +kernel
theorem dX3_readsAny_8 : decode cX3_readsAny 8 = .ok (.iload_n 3, 1) := by decide +kernel
theorem dX3_readsAny_9 : decode cX3_readsAny 9 = .ok (.aload_n 0, 1) := by decide +kernel
theorem dX3_readsAny_10 : decode cX3_readsAny 10 = .ok (.getfield 24, 3) := by decide +kernel
theorem dX3_readsAny_13 : decode cX3_readsAny 13 = .ok (.if_icmp .ge 46, 3) := by decide +kernel
theorem dX3_readsAny_16 : decode cX3_readsAny 16 = .ok (.iload_n 2, 1) := by decide +kernel
theorem dX3_readsAny_17 : decode cX3_readsAny 17 = .ok (.ifCond .eq 42, 3) := by decide +kernel
theorem dX3_readsAny_20 : decode cX3_readsAny 20 = .ok (.aload_n 0, 1) := by decide +kernel
theorem dX3_readsAny_21 : decode cX3_readsAny 21 = .ok (.bipush 124, 2) := by decide +kernel
theorem dX3_readsAny_23 : decode cX3_readsAny 23 = .ok (.invokevirtual 37, 3) := by decide +kernel
theorem dX3_readsAny_26 : decode cX3_readsAny 26 = .ok (.ifCond .eq 33, 3) := by decide +kernel
theorem dX3_readsAny_29 : decode cX3_readsAny 29 = .ok (.aload_n 0, 1) := by decide +kernel
theorem dX3_readsAny_30 : decode cX3_readsAny 30 = .ok (.iload_n 1, 1) := by decide +kernel
theorem dX3_readsAny_31 : decode cX3_readsAny 31 = .ok (.invokevirtual 71, 3) := by decide +kernel
theorem dX3_readsAny_34 : decode cX3_readsAny 34 = .ok (.ifCond .eq 17, 3) := by decide +kernel
theorem dX3_readsAny_37 : decode cX3_readsAny 37 = .ok (.aload_n 0, 1) := by decide +kernel
theorem dX3_readsAny_38 : decode cX3_readsAny 38 = .ok (.bipush 17, 2) := by decide +kernel
theorem dX3_readsAny_40 : decode cX3_readsAny 40 = .ok (.iconst 0, 1) := by decide +kernel
theorem dX3_readsAny_41 : decode cX3_readsAny 41 = .ok (.invokevirtual 55, 3) := by decide +kernel
theorem dX3_readsAny_44 : decode cX3_readsAny 44 = .ok (.ifCond .eq 7, 3) := by decide +kernel
theorem dX3_readsAny_47 : decode cX3_readsAny 47 = .ok (.iconst 1, 1) := by decide +kernel
theorem dX3_readsAny_48 : decode cX3_readsAny 48 = .ok (.goto 4, 3) := by decide +kernel
theorem dX3_readsAny_51 : decode cX3_readsAny 51 = .ok (.iconst 0, 1) := by decide +kernel
theorem dX3_readsAny_52 : decode cX3_readsAny 52 = .ok (.istore_n 2, 1) := by decide +kernel
theorem dX3_readsAny_53 : decode cX3_readsAny 53 = .ok (.iinc 3 1, 3) := by decide +kernel
theorem dX3_readsAny_56 : decode cX3_readsAny 56 = .ok (.goto (-48), 3) := by decide +kernel
theorem dX3_readsAny_59 : decode cX3_readsAny 59 = .ok (.iload_n 2, 1) := by decide +kernel
theorem dX3_readsAny_60 : decode cX3_readsAny 60 = .ok (.ireturn, 1) := by decide +kernel
set_option maxRecDepth 20000 in
theorem ggX3_readsAll_X3_readsOne : GoodIn wsX3_readsAll wsX3_readsOne := goodIn_r _ [26, 10, 27, 6, 7, 8, 5, 9, 11, 12, 13, 14, 1, 15, 2, 3, 4, 16, 17, 18, 19, 20, 21, 28, 29, 30, 31, 32, 33, 34, 35, 36, 37, 38, 39, 40, 41, 42, 43, 44, 45, 46, 47, 48, 49, 50, 51, 52, 53, 54, 55, 56, 57, 58, 59, 60, 61, 62, 63, 64, 65, 66, 67, 68, 69, 70, 71, 72, 73, 74, 75, 76, 77, 78, 79, 80, 81, 82, 83, 84, 85, 86, 87, 88, 89, 90, 91, 92, 93, 94, 95, 96, 97, 98, 99, 100, 101, 102, 103, 104, 105, 106, 107, 108, 109, 110, 111, 112, 113, 114, 115, 116, 117, 118, 119, 120, 121, 122, 123, 124, 125, 126, 0, 22, 23, 24, 25, 127, 128, 129, 130, 131, 132, 133] (by decide +kernel) (by decide +kernel)
set_option maxRecDepth 20000 in
theorem gX3_readsAll_X3_readsOne : GoodIn wsX3_readsAll (wsV RX3 74 RX3 yX3_readsOne wsX3_readsOne) := goodIn_app (goodIn_of _ (by decide +kernel)) ggX3_readsAll_X3_readsOne
set_option maxRecDepth 20000 in
theorem ggX3_readsAll_X3_passes : GoodIn wsX3_readsAll wsX3_passes := goodIn_r _ [9, 10, 11, 12, 13, 5, 14, 1, 15, 127, 128, 129, 130, 131, 132, 133] (by decide +kernel) (by decide +kernel)
set_option maxRecDepth 20000 in
theorem gX3_readsAll_X3_passes : GoodIn wsX3_readsAll (wsV RX3 37 RX3 yX3_passes wsX3_passes) := goodIn_app (goodIn_of _ (by decide +kernel)) ggX3_readsAll_X3_passes
set_option maxRecDepth 20000 in
theorem ggX3_readsAll_X3_adds : GoodIn wsX3_readsAll wsX3_adds := goodIn_r _ [19, 20, 21, 127, 128, 129, 130, 131, 132, 133] (by decide +kernel) (by decide +kernel)
set_option maxRecDepth 20000 in
theorem gX3_readsAll_X3_adds : GoodIn wsX3_readsAll (wsV RX3 55 RX3 yX3_adds wsX3_adds) := goodIn_app (goodIn_of _ (by decide +kernel)) ggX3_readsAll_X3_adds
theorem dX3_readsAll_0 : decode cX3_readsAll 0 = .ok (.aload_n 0, 1) := by decide +kernel
theorem dX3_readsAll_1 : decode cX3_readsAll 1 = .ok (.iload_n 1, 1) := by decide +kernel
theorem dX3_readsAll_2 : decode cX3_readsAll 2 = .ok (.invokevirtual 74, 3) := by decide +kernel
theorem dX3_readsAll_5 : decode cX3_readsAll 5 = .ok (.istore_n 2, 1) := by decide +kernel
theorem dX3_readsAll_6 : decode cX3_readsAll 6 = .ok (.iconst 0, 1) := by decide +kernel
theorem dX3_readsAll_7 : decode cX3_readsAll 7 = .ok (.istore_n 3, 1) := by decide +kernel
theorem dX3_readsAll_8 : decode cX3_readsAll 8 = .ok (.iload_n 3, 1) := by decide +kernel
theorem dX3_readsAll_9 : decode cX3_readsAll 9 = .ok (.aload_n 0, 1) := by decide +kernel
theorem dX3_readsAll_10 : decode cX3_readsAll 10 = .ok (.getfield 24, 3) := by decide +kernel
theorem dX3_readsAll_13 : decode cX3_readsAll 13 = .ok (.if_icmp .ge 46, 3) := by decide +kernel
theorem dX3_readsAll_16 : decode cX3_readsAll 16 = .ok (.iload_n 2, 1) := by decide +kernel
theorem dX3_readsAll_17 : decode cX3_readsAll 17 = .ok (.ifCond .eq 42, 3) := by decide +kernel
theorem dX3_readsAll_20 : decode cX3_readsAll 20 = .ok (.aload_n 0, 1) := by decide +kernel
theorem dX3_readsAll_21 : decode cX3_readsAll 21 = .ok (.bipush 38, 2) := by decide +kernel
theorem dX3_readsAll_23 : decode cX3_readsAll 23 = .ok (.invokevirtual 37, 3) := by decide +kernel
theorem dX3_readsAll_26 : decode cX3_readsAll 26 = .ok (.ifCond .eq 33, 3) := by decide +kernel
theorem dX3_readsAll_29 : decode cX3_readsAll 29 = .ok (.aload_n 0, 1) := by decide +kernel
theorem dX3_readsAll_30 : decode cX3_readsAll 30 = .ok (.iload_n 1, 1) := by decide +kernel
theorem dX3_readsAll_31 : decode cX3_readsAll 31 = .ok (.invokevirtual 74, 3) := by decide +kernel
theorem dX3_readsAll_34 : decode cX3_readsAll 34 = .ok (.ifCond .eq 17, 3) := by decide +kernel
theorem dX3_readsAll_37 : decode cX3_readsAll 37 = .ok (.aload_n 0, 1) := by decide +kernel
theorem dX3_readsAll_38 : decode cX3_readsAll 38 = .ok (.bipush 16, 2) := by decide +kernel
theorem dX3_readsAll_40 : decode cX3_readsAll 40 = .ok (.iconst 0, 1) := by decide +kernel
theorem dX3_readsAll_41 : decode cX3_readsAll 41 = .ok (.invokevirtual 55, 3) := by decide +kernel
theorem dX3_readsAll_44 : decode cX3_readsAll 44 = .ok (.ifCond .eq 7, 3) := by decide +kernel
theorem dX3_readsAll_47 : decode cX3_readsAll 47 = .ok (.iconst 1, 1) := by decide +kernel
theorem dX3_readsAll_48 : decode cX3_readsAll 48 = .ok (.goto 4, 3) := by decide +kernel
theorem dX3_readsAll_51 : decode cX3_readsAll 51 = .ok (.iconst 0, 1) := by decide +kernel
theorem dX3_readsAll_52 : decode cX3_readsAll 52 = .ok (.istore_n 2, 1) := by decide +kernel
theorem dX3_readsAll_53 : decode cX3_readsAll 53 = .ok (.iinc 3 1, 3) := by decide +kernel
theorem dX3_readsAll_56 : decode cX3_readsAll 56 = .ok (.goto (-48), 3) := by decide +kernel
theorem dX3_readsAll_59 : decode cX3_readsAll 59 = .ok (.iload_n 2, 1) := by decide +kernel
theorem dX3_readsAll_60 : decode cX3_readsAll 60 = .ok (.ireturn, 1) := by decide +kernel
set_option maxRecDepth 20000 in
theorem ggX3_readsOne_X3_passes : GoodIn wsX3_readsOne wsX3_passes := goodIn_r _ [7, 1, 8, 9, 10, 6, 11, 12, 13, 127, 128, 129, 130, 131, 132, 133] (by decide +kernel) (by decide +kernel)
set_option maxRecDepth 20000 in
theorem gX3_readsOne_X3_passes : GoodIn wsX3_readsOne (wsV RX3 37 RX3 yX3_passes wsX3_passes) := goodIn_app (goodIn_of _ (by decide +kernel)) ggX3_readsOne_X3_passes
set_option maxRecDepth 20000 in
theorem ggX3_readsOne_X3_readsOne : GoodIn wsX3_readsOne wsX3_readsOne := goodIn_r _ [0, 1, 2, 3, 4, 5, 6, 7, 8, 9, 10, 11, 12, 13, 14, 15, 16, 17, 18, 19, 20, 21, 22, 23, 24, 25, 26, 27, 28, 29, 30, 31, 32, 33, 34, 35, 36, 37, 38, 39, 40, 41, 42, 43, 44, 45, 46, 47, 48, 49, 50, 51, 52, 53, 54, 55, 56, 57, 58, 59, 60, 61, 62, 63, 64, 65, 66, 67, 68, 69, 70, 71, 72, 73, 74, 75, 76, 77, 78, 79, 80, 81, 82, 83, 84, 85, 86, 87, 88, 89, 90, 91, 92, 93, 94, 95, 96, 97, 98, 99, 100, 101, 102, 103, 104, 105, 106, 107, 108, 109, 110, 111, 112, 113, 114, 115, 116, 117, 118, 119, 120, 121, 122, 123, 124, 125, 126, 127, 128, 129, 130, 131, 132, 133] (by decide +kernel) (by decide +kernel)
set_option maxRecDepth 20000 in
theorem gX3_readsOne_X3_readsOne : GoodIn wsX3_readsOne (wsV RX3 74 RX3 yX3_readsOne wsX3_readsOne) := goodIn_app (goodIn_of _ (by decide +kernel)) ggX3_readsOne_X3_readsOne
set_option maxRecDepth 20000 in
theorem ggX3_readsOne_X3_adds : GoodIn wsX3_readsOne wsX3_adds := goodIn_r _ [20, 21, 22, 127, 128, 129, 130, 131, 132, 133] (by decide +kernel) (by decide +kernel)
set_option maxRecDepth 20000 in
theorem gX3_readsOne_X3_adds : GoodIn wsX3_readsOne (wsV RX3 55 RX3 yX3_adds wsX3_adds) := goodIn_app (goodIn_of _ (by decide +kernel)) ggX3_readsOne_X3_adds
set_option maxRecDepth 20000 in
theorem ggX3_readsOne_X3_readsAny : GoodIn wsX3_readsOne wsX3_readsAny := goodIn_r _ [123, 12, 124, 125, 126, 6, 3, 4, 5, 7, 1, 8, 9, 10, 11, 13, 17, 18, 19, 20, 21, 22, 122, 14, 15, 16, 0, 2, 23, 24, 25, 26, 27, 28, 29, 30, 31, 32, 33, 34, 35, 36, 37, 38, 39, 40, 41, 42, 43, 44, 45, 46, 47, 48, 49, 50, 51, 52, 53, 54, 55, 56, 57, 58, 59, 60, 61, 62, 63, 64, 65, 66, 67, 68, 69, 70, 71, 72, 73, 74, 75, 76, 77, 78, 79, 80, 81, 82, 83, 84, 85, 86, 87, 88, 89, 90, 91, 92, 93, 94, 95, 96, 97, 98, 99, 100, 101, 102, 103, 104, 105, 106, 107, 108, 109, 110, 111, 112, 113, 114, 115, 116, 117, 118, 119, 120, 121, 127, 128, 129, 130, 131, 132, 133] (by decide +kernel) (by decide +kernel)
set_option maxRecDepth 20000 in
theorem gX3_readsOne_X3_readsAny : GoodIn wsX3_readsOne (wsV RX3 51 RX3 yX3_readsAny wsX3_readsAny) := goodIn_app (goodIn_of _ (by decide +kernel)) ggX3_readsOne_X3_readsAny
set_option maxRecDepth 20000 in
theorem ggX3_readsOne_X3_nextByte : GoodIn wsX3_readsOne wsX3_nextByte := goodIn_r _ [11, 1, 12, 13, 127, 128, 129, 130, 131, 132, 133] (by decide +kernel) (by decide +kernel)
set_option maxRecDepth 20000 in
theorem gX3_readsOne_X3_nextByte : GoodIn wsX3_readsOne (wsV RX3 79 RX3 yX3_nextByte wsX3_nextByte) := goodIn_app (goodIn_of _ (by decide +kernel)) ggX3_readsOne_X3_nextByte
set_option maxRecDepth 20000 in
theorem ggX3_readsOne_J0_indexOf_0f7a4 : GoodIn wsX3_readsOne wsJ0_indexOf_0f7a4 := goodIn_r _ [30, 31, 32, 33, 29, 34, 35, 36, 37, 38, 39, 40, 41, 42, 43, 44, 45, 46, 47, 48, 49, 50, 51, 52, 53, 54, 55, 56, 57, 58, 59, 60, 61, 62, 63, 64, 65, 66, 67, 68, 69, 70, 71, 72, 73, 74, 75, 76, 77, 78, 79, 80, 81, 82, 83, 84, 85, 86, 87, 88, 89, 90, 91, 92, 93, 94, 95, 96, 97, 98, 99, 100, 101, 102, 103, 104, 105, 106, 107, 108, 109, 110, 111, 112, 113, 114] (by decide +kernel) (by decide +kernel)
set_option maxRecDepth 20000 in
theorem gX3_readsOne_J0_indexOf_0f7a4 : GoodIn wsX3_readsOne (wsV RX3 83 RJ0 yJ0_indexOf_0f7a4 wsJ0_indexOf_0f7a4) := goodIn_app (goodIn_of _ (by decide +kernel)) ggX3_readsOne_J0_indexOf_0f7a4
set_option maxRecDepth 20000 in
theorem ggX3_readsOne_X3_readsNumber : GoodIn wsX3_readsOne wsX3_readsNumber := goodIn_r _ [118, 1, 2, 8, 9, 10, 6, 11, 12, 13, 119, 120, 121, 127, 128, 129, 130, 131, 132, 133] (by decide +kernel) (by decide +kernel)
set_option maxRecDepth 20000 in
theorem gX3_readsOne_X3_readsNumber : GoodIn wsX3_readsOne (wsV RX3 61 RX3 yX3_readsNumber wsX3_readsNumber) := goodIn_app (goodIn_of _ (by decide +kernel)) ggX3_readsOne_X3_readsNumber
theorem dX3_readsOne_0 : decode cX3_readsOne 0 = .ok (.iload_n 1, 1) := by decide +kernel
theorem dX3_readsOne_1 : decode cX3_readsOne 1 = .ok (.iconst 5, 1) := by decide +kernel
theorem dX3_readsOne_2 : decode cX3_readsOne 2 = .ok (.if_icmp .ge 38, 3) := by decide +kernel
theorem dX3_readsOne_5 : decode cX3_readsOne 5 = .ok (.aload_n 0, 1) := by decide +kernel
theorem dX3_readsOne_6 : decode cX3_readsOne 6 = .ok (.bipush 33, 2) := by decide +kernel
theorem dX3_readsOne_8 : decode cX3_readsOne 8 = .ok (.invokevirtual 37, 3) := by decide +kernel
theorem dX3_readsOne_11 : decode cX3_readsOne 11 = .ok (.ifCond .eq 29, 3) := by decide +kernel
theorem dX3_readsOne_14 : decode cX3_readsOne 14 = .ok (.aload_n 0, 1) := by decide +kernel
theorem dX3_readsOne_15 : decode cX3_readsOne 15 = .ok (.iload_n 1, 1) := by decide +kernel
theorem dX3_readsOne_16 : decode cX3_readsOne 16 = .ok (.iconst 1, 1) := by decide +kernel
theorem dX3_readsOne_17 : decode cX3_readsOne 17 = .ok (.iadd, 1) := by decide +kernel
theorem dX3_readsOne_18 : decode cX3_readsOne 18 = .ok (.invokevirtual 74, 3) := by decide +kernel
theorem dX3_readsOne_21 : decode cX3_readsOne 21 = .ok (.ifCond .eq 17, 3) := by decide +kernel
theorem dX3_readsOne_24 : decode cX3_readsOne 24 = .ok (.aload_n 0, 1) := by decide +kernel
theorem dX3_readsOne_25 : decode cX3_readsOne 25 = .ok (.bipush 15, 2) := by decide +kernel
theorem dX3_readsOne_27 : decode cX3_readsOne 27 = .ok (.iconst 0, 1) := by decide +kernel
theorem dX3_readsOne_28 : decode cX3_readsOne 28 = .ok (.invokevirtual 55, 3) := by decide +kernel
theorem dX3_readsOne_31 : decode cX3_readsOne 31 = .ok (.ifCond .eq 7, 3) := by decide +kernel
theorem dX3_readsOne_34 : decode cX3_readsOne 34 = .ok (.iconst 1, 1) := by decide +kernel
theorem dX3_readsOne_35 : decode cX3_readsOne 35 = .ok (.goto 4, 3) := by decide +kernel
theorem dX3_readsOne_38 : decode cX3_readsOne 38 = .ok (.iconst 0, 1) := by decide +kernel
theorem dX3_readsOne_39 : decode cX3_readsOne 39 = .ok (.ireturn, 1) := by decide +kernel
theorem dX3_readsOne_40 : decode cX3_readsOne 40 = .ok (.iload_n 1, 1) := by decide +kernel
theorem dX3_readsOne_41 : decode cX3_readsOne 41 = .ok (.iconst 5, 1) := by decide +kernel
theorem dX3_readsOne_42 : decode cX3_readsOne 42 = .ok (.if_icmp .ge 37, 3) := by decide +kernel
theorem dX3_readsOne_45 : decode cX3_readsOne 45 = .ok (.aload_n 0, 1) := by decide +kernel
theorem dX3_readsOne_46 : decode cX3_readsOne 46 = .ok (.bipush 40, 2) := by decide +kernel
theorem dX3_readsOne_48 : decode cX3_readsOne 48 = .ok (.invokevirtual 37, 3) := by decide +kernel
theorem dX3_readsOne_51 : decode cX3_readsOne 51 = .ok (.ifCond .eq 28, 3) := by decide +kernel
theorem dX3_readsOne_54 : decode cX3_readsOne 54 = .ok (.aload_n 0, 1) := by decide +kernel
theorem dX3_readsOne_55 : decode cX3_readsOne 55 = .ok (.iload_n 1, 1) := by decide +kernel
theorem dX3_readsOne_56 : decode cX3_readsOne 56 = .ok (.iconst 1, 1) := by decide +kernel
theorem dX3_readsOne_57 : decode cX3_readsOne 57 = .ok (.iadd, 1) := by decide +kernel
theorem dX3_readsOne_58 : decode cX3_readsOne 58 = .ok (.invokevirtual 51, 3) := by decide +kernel
theorem dX3_readsOne_61 : decode cX3_readsOne 61 = .ok (.ifCond .eq 16, 3) := by decide +kernel
theorem dX3_readsOne_64 : decode cX3_readsOne 64 = .ok (.aload_n 0, 1) := by decide +kernel
theorem dX3_readsOne_65 : decode cX3_readsOne 65 = .ok (.bipush 41, 2) := by decide +kernel
theorem dX3_readsOne_67 : decode cX3_readsOne 67 = .ok (.invokevirtual 37, 3) := by decide +kernel
theorem dX3_readsOne_70 : decode cX3_readsOne 70 = .ok (.ifCond .eq 7, 3) := by decide +kernel
theorem dX3_readsOne_73 : decode cX3_readsOne 73 = .ok (.iconst 1, 1) := by decide +kernel
theorem dX3_readsOne_74 : decode cX3_readsOne 74 = .ok (.goto 4, 3) := by decide +kernel
theorem dX3_readsOne_77 : decode cX3_readsOne 77 = .ok (.iconst 0, 1) := by decide +kernel
theorem dX3_readsOne_78 : decode cX3_readsOne 78 = .ok (.ireturn, 1) := by decide +kernel
theorem dX3_readsOne_79 : decode cX3_readsOne 79 = .ok (.ldc 77, 2) := by decide +kernel
theorem dX3_readsOne_81 : decode cX3_readsOne 81 = .ok (.aload_n 0, 1) := by decide +kernel
theorem dX3_readsOne_82 : decode cX3_readsOne 82 = .ok (.invokevirtual 79, 3) := by decide +kernel
theorem dX3_readsOne_85 : decode cX3_readsOne 85 = .ok (.i2c, 1) := by decide +kernel
theorem dX3_readsOne_86 : decode cX3_readsOne 86 = .ok (.invokevirtual 83, 3) := by decide +kernel
theorem dX3_readsOne_89 : decode cX3_readsOne 89 = .ok (.istore_n 2, 1) := by decide +kernel
theorem dX3_readsOne_90 : decode cX3_readsOne 90 = .ok (.iload_n 2, 1) := by decide +kernel
theorem dX3_readsOne_91 : decode cX3_readsOne 91 = .ok (.ifCond .ge 5, 3) := by decide +kernel
theorem dX3_readsOne_94 : decode cX3_readsOne 94 = .ok (.iconst 0, 1) := by decide +kernel
theorem dX3_readsOne_95 : decode cX3_readsOne 95 = .ok (.ireturn, 1) := by decide +kernel
theorem dX3_readsOne_96 : decode cX3_readsOne 96 = .ok (.aload_n 0, 1) := by decide +kernel
theorem dX3_readsOne_97 : decode cX3_readsOne 97 = .ok (.dup, 1) := by decide +kernel
theorem dX3_readsOne_98 : decode cX3_readsOne 98 = .ok (.getfield 28, 3) := by decide +kernel
theorem dX3_readsOne_101 : decode cX3_readsOne 101 = .ok (.iconst 1, 1) := by decide +kernel
theorem dX3_readsOne_102 : decode cX3_readsOne 102 = .ok (.iadd, 1) := by decide +kernel
theorem dX3_readsOne_103 : decode cX3_readsOne 103 = .ok (.putfield 28, 3) := by decide +kernel
theorem dX3_readsOne_106 : decode cX3_readsOne 106 = .ok (.ldc 89, 2) := by decide +kernel
theorem dX3_readsOne_108 : decode cX3_readsOne 108 = .ok (.aload_n 0, 1) := by decide +kernel
theorem dX3_readsOne_109 : decode cX3_readsOne 109 = .ok (.invokevirtual 79, 3) := by decide +kernel
theorem dX3_readsOne_112 : decode cX3_readsOne 112 = .ok (.i2c, 1) := by decide +kernel
theorem dX3_readsOne_113 : decode cX3_readsOne 113 = .ok (.invokevirtual 83, 3) := by decide +kernel
theorem dX3_readsOne_116 : decode cX3_readsOne 116 = .ok (.istore_n 3, 1) := by decide +kernel
theorem dX3_readsOne_117 : decode cX3_readsOne 117 = .ok (.iload_n 3, 1) := by decide +kernel
theorem dX3_readsOne_118 : decode cX3_readsOne 118 = .ok (.ifCond .ge 5, 3) := by decide +kernel
theorem dX3_readsOne_121 : decode cX3_readsOne 121 = .ok (.iconst 0, 1) := by decide +kernel
theorem dX3_readsOne_122 : decode cX3_readsOne 122 = .ok (.ireturn, 1) := by decide +kernel
theorem dX3_readsOne_123 : decode cX3_readsOne 123 = .ok (.aload_n 0, 1) := by decide +kernel
theorem dX3_readsOne_124 : decode cX3_readsOne 124 = .ok (.dup, 1) := by decide +kernel
theorem dX3_readsOne_125 : decode cX3_readsOne 125 = .ok (.getfield 28, 3) := by decide +kernel
theorem dX3_readsOne_128 : decode cX3_readsOne 128 = .ok (.iconst 1, 1) := by decide +kernel
theorem dX3_readsOne_129 : decode cX3_readsOne 129 = .ok (.iadd, 1) := by decide +kernel
theorem dX3_readsOne_130 : decode cX3_readsOne 130 = .ok (.putfield 28, 3) := by decide +kernel
theorem dX3_readsOne_133 : decode cX3_readsOne 133 = .ok (.aload_n 0, 1) := by decide +kernel
theorem dX3_readsOne_134 : decode cX3_readsOne 134 = .ok (.invokevirtual 61, 3) := by decide +kernel
theorem dX3_readsOne_137 : decode cX3_readsOne 137 = .ok (.ifCond .eq 23, 3) := by decide +kernel
theorem dX3_readsOne_140 : decode cX3_readsOne 140 = .ok (.aload_n 0, 1) := by decide +kernel
theorem dX3_readsOne_141 : decode cX3_readsOne 141 = .ok (.iload_n 2, 1) := by decide +kernel
theorem dX3_readsOne_142 : decode cX3_readsOne 142 = .ok (.iconst 3, 1) := by decide +kernel
theorem dX3_readsOne_143 : decode cX3_readsOne 143 = .ok (.imul, 1) := by decide +kernel
theorem dX3_readsOne_144 : decode cX3_readsOne 144 = .ok (.iload_n 3, 1) := by decide +kernel
theorem dX3_readsOne_145 : decode cX3_readsOne 145 = .ok (.iadd, 1) := by decide +kernel
theorem dX3_readsOne_146 : decode cX3_readsOne 146 = .ok (.aload_n 0, 1) := by decide +kernel
theorem dX3_readsOne_147 : decode cX3_readsOne 147 = .ok (.getfield 64, 3) := by decide +kernel
theorem dX3_readsOne_150 : decode cX3_readsOne 150 = .ok (.invokevirtual 55, 3) := by decide +kernel
theorem dX3_readsOne_153 : decode cX3_readsOne 153 = .ok (.ifCond .eq 7, 3) := by decide +kernel
theorem dX3_readsOne_156 : decode cX3_readsOne 156 = .ok (.iconst 1, 1) := by decide +kernel
theorem dX3_readsOne_157 : decode cX3_readsOne 157 = .ok (.goto 4, 3) := by decide +kernel
theorem dX3_readsOne_160 : decode cX3_readsOne 160 = .ok (.iconst 0, 1) := by decide +kernel
theorem dX3_readsOne_161 : decode cX3_readsOne 161 = .ok (.ireturn, 1) := by decide +kernel
set_option maxRecDepth 20000 in
theorem ggX3_readsNumber_X3_nextByte : GoodIn wsX3_readsNumber wsX3_nextByte := goodIn_r _ [7, 1, 8, 9, 13, 14, 15, 16, 17, 18, 19] (by decide +kernel) (by decide +kernel)
set_option maxRecDepth 20000 in
theorem gX3_readsNumber_X3_nextByte : GoodIn wsX3_readsNumber (wsV RX3 79 RX3 yX3_nextByte wsX3_nextByte) := goodIn_app (goodIn_of _ (by decide +kernel)) ggX3_readsNumber_X3_nextByte
set_option maxRecDepth 20000 in
theorem ggX3_readsNumber_X11_isWithin : GoodIn wsX3_readsNumber wsX11_isWithin := goodIn_r _ [12] (by decide +kernel) (by decide +kernel)
set_option maxRecDepth 20000 in
theorem gX3_readsNumber_X11_isWithin_n91 : GoodIn wsX3_readsNumber (wsX11_isWithin) := ggX3_readsNumber_X11_isWithin
theorem dX3_readsNumber_0 : decode cX3_readsNumber 0 = .ok (.aload_n 0, 1) := by decide +kernel
theorem dX3_readsNumber_1 : decode cX3_readsNumber 1 = .ok (.invokevirtual 79, 3) := by decide +kernel
theorem dX3_readsNumber_4 : decode cX3_readsNumber 4 = .ok (.bipush 48, 2) := by decide +kernel
theorem dX3_readsNumber_6 : decode cX3_readsNumber 6 = .ok (.isub, 1) := by decide +kernel
theorem dX3_readsNumber_7 : decode cX3_readsNumber 7 = .ok (.istore_n 1, 1) := by decide +kernel
theorem dX3_readsNumber_8 : decode cX3_readsNumber 8 = .ok (.iload_n 1, 1) := by decide +kernel
theorem dX3_readsNumber_9 : decode cX3_readsNumber 9 = .ok (.iconst 0, 1) := by decide +kernel
theorem dX3_readsNumber_10 : decode cX3_readsNumber 10 = .ok (.bipush 9, 2) := by decide +kernel
theorem dX3_readsNumber_12 : decode cX3_readsNumber 12 = .ok (.invokestatic 91, 3) := by decide +kernel
theorem dX3_readsNumber_15 : decode cX3_readsNumber 15 = .ok (.ifCond .ne 5, 3) := by decide +kernel
theorem dX3_readsNumber_18 : decode cX3_readsNumber 18 = .ok (.iconst 0, 1) := by decide +kernel
theorem dX3_readsNumber_19 : decode cX3_readsNumber 19 = .ok (.ireturn, 1) := by decide +kernel
theorem dX3_readsNumber_20 : decode cX3_readsNumber 20 = .ok (.aload_n 0, 1) := by decide +kernel
theorem dX3_readsNumber_21 : decode cX3_readsNumber 21 = .ok (.dup, 1) := by decide +kernel
theorem dX3_readsNumber_22 : decode cX3_readsNumber 22 = .ok (.getfield 28, 3) := by decide +kernel
theorem dX3_readsNumber_25 : decode cX3_readsNumber 25 = .ok (.iconst 1, 1) := by decide +kernel
theorem dX3_readsNumber_26 : decode cX3_readsNumber 26 = .ok (.iadd, 1) := by decide +kernel
theorem dX3_readsNumber_27 : decode cX3_readsNumber 27 = .ok (.putfield 28, 3) := by decide +kernel
theorem dX3_readsNumber_30 : decode cX3_readsNumber 30 = .ok (.aload_n 0, 1) := by decide +kernel
theorem dX3_readsNumber_31 : decode cX3_readsNumber 31 = .ok (.iload_n 1, 1) := by decide +kernel
theorem dX3_readsNumber_32 : decode cX3_readsNumber 32 = .ok (.putfield 64, 3) := by decide +kernel
theorem dX3_readsNumber_35 : decode cX3_readsNumber 35 = .ok (.aload_n 0, 1) := by decide +kernel
theorem dX3_readsNumber_36 : decode cX3_readsNumber 36 = .ok (.invokevirtual 79, 3) := by decide +kernel
theorem dX3_readsNumber_39 : decode cX3_readsNumber 39 = .ok (.bipush 48, 2) := by decide +kernel
theorem dX3_readsNumber_41 : decode cX3_readsNumber 41 = .ok (.isub, 1) := by decide +kernel
theorem dX3_readsNumber_42 : decode cX3_readsNumber 42 = .ok (.istore_n 2, 1) := by decide +kernel
theorem dX3_readsNumber_43 : decode cX3_readsNumber 43 = .ok (.iload_n 1, 1) := by decide +kernel
theorem dX3_readsNumber_44 : decode cX3_readsNumber 44 = .ok (.ifCond .le 33, 3) := by decide +kernel
theorem dX3_readsNumber_47 : decode cX3_readsNumber 47 = .ok (.iload_n 2, 1) := by decide +kernel
theorem dX3_readsNumber_48 : decode cX3_readsNumber 48 = .ok (.iconst 0, 1) := by decide +kernel
theorem dX3_readsNumber_49 : decode cX3_readsNumber 49 = .ok (.bipush 9, 2) := by decide +kernel
theorem dX3_readsNumber_51 : decode cX3_readsNumber 51 = .ok (.invokestatic 91, 3) := by decide +kernel
theorem dX3_readsNumber_54 : decode cX3_readsNumber 54 = .ok (.ifCond .eq 23, 3) := by decide +kernel
theorem dX3_readsNumber_57 : decode cX3_readsNumber 57 = .ok (.aload_n 0, 1) := by decide +kernel
theorem dX3_readsNumber_58 : decode cX3_readsNumber 58 = .ok (.dup, 1) := by decide +kernel
theorem dX3_readsNumber_59 : decode cX3_readsNumber 59 = .ok (.getfield 28, 3) := by decide +kernel
theorem dX3_readsNumber_62 : decode cX3_readsNumber 62 = .ok (.iconst 1, 1) := by decide +kernel
theorem dX3_readsNumber_63 : decode cX3_readsNumber 63 = .ok (.iadd, 1) := by decide +kernel
theorem dX3_readsNumber_64 : decode cX3_readsNumber 64 = .ok (.putfield 28, 3) := by decide +kernel
theorem dX3_readsNumber_67 : decode cX3_readsNumber 67 = .ok (.aload_n 0, 1) := by decide +kernel
theorem dX3_readsNumber_68 : decode cX3_readsNumber 68 = .ok (.bipush 10, 2) := by decide +kernel
theorem dX3_readsNumber_70 : decode cX3_readsNumber 70 = .ok (.iload_n 1, 1) := by decide +kernel
theorem dX3_readsNumber_71 : decode cX3_readsNumber 71 = .ok (.imul, 1) := by decide +kernel
theorem dX3_readsNumber_72 : decode cX3_readsNumber 72 = .ok (.iload_n 2, 1) := by decide +kernel
theorem dX3_readsNumber_73 : decode cX3_readsNumber 73 = .ok (.iadd, 1) := by decide +kernel
theorem dX3_readsNumber_74 : decode cX3_readsNumber 74 = .ok (.putfield 64, 3) := by decide +kernel
theorem dX3_readsNumber_77 : decode cX3_readsNumber 77 = .ok (.iconst 1, 1) := by decide +kernel
theorem dX3_readsNumber_78 : decode cX3_readsNumber 78 = .ok (.ireturn, 1) := by decide +kernel
theorem dX3_nextByte_0 : decode cX3_nextByte 0 = .ok (.aload_n 0, 1) := by decide +kernel
theorem dX3_nextByte_1 : decode cX3_nextByte 1 = .ok (.getfield 28, 3) := by decide +kernel
theorem dX3_nextByte_4 : decode cX3_nextByte 4 = .ok (.aload_n 0, 1) := by decide +kernel
theorem dX3_nextByte_5 : decode cX3_nextByte 5 = .ok (.getfield 24, 3) := by decide +kernel
theorem dX3_nextByte_8 : decode cX3_nextByte 8 = .ok (.if_icmp .ge 15, 3) := by decide +kernel
theorem dX3_nextByte_11 : decode cX3_nextByte 11 = .ok (.aload_n 0, 1) := by decide +kernel
theorem dX3_nextByte_12 : decode cX3_nextByte 12 = .ok (.getfield 9, 3) := by decide +kernel
theorem dX3_nextByte_15 : decode cX3_nextByte 15 = .ok (.aload_n 0, 1) := by decide +kernel
theorem dX3_nextByte_16 : decode cX3_nextByte 16 = .ok (.getfield 28, 3) := by decide +kernel
theorem dX3_nextByte_19 : decode cX3_nextByte 19 = .ok (.iaload, 1) := by decide +kernel
theorem dX3_nextByte_20 : decode cX3_nextByte 20 = .ok (.goto 4, 3) := by decide +kernel
theorem dX3_nextByte_23 : decode cX3_nextByte 23 = .ok (.iconst 0, 1) := by decide +kernel
theorem dX3_nextByte_24 : decode cX3_nextByte 24 = .ok (.ireturn, 1) := by decide +kernel
set_option maxRecDepth 20000 in
theorem ggX3_passes_X3_nextByte : GoodIn wsX3_passes wsX3_nextByte := goodIn_r _ [6, 1, 7, 8, 9, 10, 11, 12, 13, 14, 15] (by decide +kernel) (by decide +kernel)
set_option maxRecDepth 20000 in
theorem gX3_passes_X3_nextByte : GoodIn wsX3_passes (wsV RX3 79 RX3 yX3_nextByte wsX3_nextByte) := goodIn_app (goodIn_of _ (by decide +kernel)) ggX3_passes_X3_nextByte
theorem dX3_passes_0 : decode cX3_passes 0 = .ok (.aload_n 0, 1) := by decide +kernel
theorem dX3_passes_1 : decode cX3_passes 1 = .ok (.invokevirtual 79, 3) := by decide +kernel
theorem dX3_passes_4 : decode cX3_passes 4 = .ok (.iload_n 1, 1) := by decide +kernel
theorem dX3_passes_5 : decode cX3_passes 5 = .ok (.if_icmp .eq 5, 3) := by decide +kernel
theorem dX3_passes_8 : decode cX3_passes 8 = .ok (.iconst 0, 1) := by decide +kernel
theorem dX3_passes_9 : decode cX3_passes 9 = .ok (.ireturn, 1) := by decide +kernel
theorem dX3_passes_10 : decode cX3_passes 10 = .ok (.aload_n 0, 1) := by decide +kernel
theorem dX3_passes_11 : decode cX3_passes 11 = .ok (.dup, 1) := by decide +kernel
theorem dX3_passes_12 : decode cX3_passes 12 = .ok (.getfield 28, 3) := by decide +kernel
theorem dX3_passes_15 : decode cX3_passes 15 = .ok (.iconst 1, 1) := by decide +kernel
theorem dX3_passes_16 : decode cX3_passes 16 = .ok (.iadd, 1) := by decide +kernel
theorem dX3_passes_17 : decode cX3_passes 17 = .ok (.putfield 28, 3) := by decide +kernel
theorem dX3_passes_20 : decode cX3_passes 20 = .ok (.iconst 1, 1) := by decide +kernel
theorem dX3_passes_21 : decode cX3_passes 21 = .ok (.ireturn, 1) := by decide +kernel
set_option maxRecDepth 20000 in
theorem ggX3_passesAll_J0_length_8abf5 : GoodIn wsX3_passesAll wsJ0_length_8abf5 := goodIn_r _ [5, 6, 7, 8, 9, 4, 10, 11, 12] (by decide +kernel) (by decide +kernel)
set_option maxRecDepth 20000 in
theorem gX3_passesAll_J0_length_8abf5 : GoodIn wsX3_passesAll (wsV RX3 95 RJ0 yJ0_length_8abf5 wsJ0_length_8abf5) := goodIn_app (goodIn_of _ (by decide +kernel)) ggX3_passesAll_J0_length_8abf5
set_option maxRecDepth 20000 in
theorem ggX3_passesAll_J0_charAt_5068e : GoodIn wsX3_passesAll wsJ0_charAt_5068e := goodIn_r _ [16, 6, 17, 18, 19, 4, 20, 11, 12, 21, 22, 23, 24, 25, 26, 27, 28, 29, 30, 31, 32, 33, 34, 35, 36, 37, 38, 39, 40, 41, 42, 43, 44, 45, 46, 47, 48, 49] (by decide +kernel) (by decide +kernel)
set_option maxRecDepth 20000 in
theorem gX3_passesAll_J0_charAt_5068e : GoodIn wsX3_passesAll (wsV RX3 98 RJ0 yJ0_charAt_5068e wsJ0_charAt_5068e) := goodIn_app (goodIn_of _ (by decide +kernel)) ggX3_passesAll_J0_charAt_5068e
set_option maxRecDepth 20000 in
theorem ggX3_passesAll_X3_passes : GoodIn wsX3_passesAll wsX3_passes := goodIn_r _ [54, 55, 56, 57, 58, 53, 59, 60, 61, 62, 63, 64, 65, 66, 67, 68] (by decide +kernel) (by decide +kernel)
set_option maxRecDepth 20000 in
theorem gX3_passesAll_X3_passes : GoodIn wsX3_passesAll (wsV RX3 37 RX3 yX3_passes wsX3_passes) := goodIn_app (goodIn_of _ (by decide +kernel)) ggX3_passesAll_X3_passes
theorem dX3_passesAll_0 : decode cX3_passesAll 0 = .ok (.iconst 0, 1) := by decide +kernel
theorem dX3_passesAll_1 : decode cX3_passesAll 1 = .ok (.istore_n 2, 1) := by decide +kernel
theorem dX3_passesAll_2 : decode cX3_passesAll 2 = .ok (.iload_n 2, 1) := by decide +kernel
theorem dX3_passesAll_3 : decode cX3_passesAll 3 = .ok (.aload_n 1, 1) := by decide +kernel
theorem dX3_passesAll_4 : decode cX3_passesAll 4 = .ok (.invokevirtual 95, 3) := by decide +kernel
theorem dX3_passesAll_7 : decode cX3_passesAll 7 = .ok (.if_icmp .ge 23, 3) := by decide +kernel
theorem dX3_passesAll_10 : decode cX3_passesAll 10 = .ok (.aload_n 0, 1) := by decide +kernel
theorem dX3_passesAll_11 : decode cX3_passesAll 11 = .ok (.aload_n 1, 1) := by decide +kernel
theorem dX3_passesAll_12 : decode cX3_passesAll 12 = .ok (.iload_n 2, 1) := by decide +kernel
theorem dX3_passesAll_13 : decode cX3_passesAll 13 = .ok (.invokevirtual 98, 3) := by decide +kernel
theorem dX3_passesAll_16 : decode cX3_passesAll 16 = .ok (.invokevirtual 37, 3) := by decide +kernel
theorem dX3_passesAll_19 : decode cX3_passesAll 19 = .ok (.ifCond .ne 5, 3) := by decide +kernel
theorem dX3_passesAll_22 : decode cX3_passesAll 22 = .ok (.iconst 0, 1) := by decide +kernel
theorem dX3_passesAll_23 : decode cX3_passesAll 23 = .ok (.ireturn, 1) := by decide +kernel
theorem dX3_passesAll_24 : decode cX3_passesAll 24 = .ok (.iinc 2 1, 3) := by decide +kernel
theorem dX3_passesAll_27 : decode cX3_passesAll 27 = .ok (.goto (-25), 3) := by decide +kernel
theorem dX3_passesAll_30 : decode cX3_passesAll 30 = .ok (.iconst 1, 1) := by decide +kernel
theorem dX3_passesAll_31 : decode cX3_passesAll 31 = .ok (.ireturn, 1) := by decide +kernel
theorem dX3_adds_0 : decode cX3_adds 0 = .ok (.aload_n 0, 1) := by decide +kernel
theorem dX3_adds_1 : decode cX3_adds 1 = .ok (.getfield 31, 3) := by decide +kernel
theorem dX3_adds_4 : decode cX3_adds 4 = .ok (.bipush 120, 2) := by decide +kernel
theorem dX3_adds_6 : decode cX3_adds 6 = .ok (.if_icmp .lt 5, 3) := by decide +kernel
theorem dX3_adds_9 : decode cX3_adds 9 = .ok (.iconst 0, 1) := by decide +kernel
theorem dX3_adds_10 : decode cX3_adds 10 = .ok (.ireturn, 1) := by decide +kernel
theorem dX3_adds_11 : decode cX3_adds 11 = .ok (.aload_n 0, 1) := by decide +kernel
theorem dX3_adds_12 : decode cX3_adds 12 = .ok (.getfield 15, 3) := by decide +kernel
theorem dX3_adds_15 : decode cX3_adds 15 = .ok (.aload_n 0, 1) := by decide +kernel
theorem dX3_adds_16 : decode cX3_adds 16 = .ok (.getfield 31, 3) := by decide +kernel
theorem dX3_adds_19 : decode cX3_adds 19 = .ok (.iload_n 1, 1) := by decide +kernel
theorem dX3_adds_20 : decode cX3_adds 20 = .ok (.bipush 100, 2) := by decide +kernel
theorem dX3_adds_22 : decode cX3_adds 22 = .ok (.imul, 1) := by decide +kernel
theorem dX3_adds_23 : decode cX3_adds 23 = .ok (.iload_n 2, 1) := by decide +kernel
theorem dX3_adds_24 : decode cX3_adds 24 = .ok (.iadd, 1) := by decide +kernel
theorem dX3_adds_25 : decode cX3_adds 25 = .ok (.iastore, 1) := by decide +kernel
theorem dX3_adds_26 : decode cX3_adds 26 = .ok (.aload_n 0, 1) := by decide +kernel
theorem dX3_adds_27 : decode cX3_adds 27 = .ok (.dup, 1) := by decide +kernel
theorem dX3_adds_28 : decode cX3_adds 28 = .ok (.getfield 31, 3) := by decide +kernel
theorem dX3_adds_31 : decode cX3_adds 31 = .ok (.iconst 1, 1) := by decide +kernel
theorem dX3_adds_32 : decode cX3_adds 32 = .ok (.iadd, 1) := by decide +kernel
theorem dX3_adds_33 : decode cX3_adds 33 = .ok (.putfield 31, 3) := by decide +kernel
theorem dX3_adds_36 : decode cX3_adds 36 = .ok (.iconst 1, 1) := by decide +kernel
theorem dX3_adds_37 : decode cX3_adds 37 = .ok (.ireturn, 1) := by decide +kernel
set_option maxRecDepth 20000 in
theorem ggX4_init_X10_init : GoodIn wsX4_init wsX10_init := goodIn_r _ [4, 5, 6, 7, 8, 9, 10, 11, 12, 13, 14, 15, 16, 17, 18, 19, 20, 21, 22, 23, 24, 25, 26, 27, 28, 29, 30, 31, 32, 33, 34, 35, 36, 37, 38, 39, 40, 41, 42, 43, 44, 45, 46, 47, 48, 49, 50, 51, 52, 53, 54, 55, 56, 57, 58, 59, 60, 61, 62, 63, 64, 65, 66, 67, 68, 69, 70, 71, 72, 73, 74, 75, 76, 77, 78, 79, 80, 81] (by decide +kernel) (by decide +kernel)
set_option maxRecDepth 20000 in
theorem gX4_init_X10_init : GoodIn wsX4_init (wsX10_init) := ggX4_init_X10_init
theorem dX4_init_0 : decode cX4_init 0 = .ok (.aload_n 0, 1) := by decide +kernel
theorem dX4_init_1 : decode cX4_init 1 = .ok (.iload_n 1, 1) := by decide +kernel
theorem dX4_init_2 : decode cX4_init 2 = .ok (.iload_n 2, 1) := by decide +kernel
theorem dX4_init_3 : decode cX4_init 3 = .ok (.iload_n 3, 1) := by decide +kernel
theorem dX4_init_4 : decode cX4_init 4 = .ok (.aload 4, 2) := by decide +kernel
theorem dX4_init_6 : decode cX4_init 6 = .ok (.invokespecial 1, 3) := by decide +kernel
theorem dX4_init_9 : decode cX4_init 9 = .ok (.return_, 1) := by decide +kernel
set_option maxRecDepth 20000 in
theorem ggX4_sideUp_X10_sideUp : GoodIn wsX4_sideUp wsX10_sideUp := goodIn_r _ [8, 9, 10, 11, 12, 13, 14, 15, 16] (by decide +kernel) (by decide +kernel)
set_option maxRecDepth 20000 in
theorem gX4_sideUp_X10_sideUp_s18 : GoodIn wsX4_sideUp (va_wsSU RX4 18 yX10_sideUp wsX10_sideUp) := goodIn_app (goodIn_of _ (by decide +kernel)) ggX4_sideUp_X10_sideUp
theorem dX4_sideUp_0 : decode cX4_sideUp 0 = .ok (.aload_n 1, 1) := by decide +kernel
theorem dX4_sideUp_1 : decode cX4_sideUp 1 = .ok (.getfield 7, 3) := by decide +kernel
theorem dX4_sideUp_4 : decode cX4_sideUp 4 = .ok (.aload_n 0, 1) := by decide +kernel
theorem dX4_sideUp_5 : decode cX4_sideUp 5 = .ok (.getfield 13, 3) := by decide +kernel
theorem dX4_sideUp_8 : decode cX4_sideUp 8 = .ok (.if_icmp .lt 7, 3) := by decide +kernel
theorem dX4_sideUp_11 : decode cX4_sideUp 11 = .ok (.iload_n 2, 1) := by decide +kernel
theorem dX4_sideUp_12 : decode cX4_sideUp 12 = .ok (.goto 9, 3) := by decide +kernel
theorem dX4_sideUp_15 : decode cX4_sideUp 15 = .ok (.aload_n 0, 1) := by decide +kernel
theorem dX4_sideUp_16 : decode cX4_sideUp 16 = .ok (.aload_n 1, 1) := by decide +kernel
theorem dX4_sideUp_17 : decode cX4_sideUp 17 = .ok (.iload_n 2, 1) := by decide +kernel
theorem dX4_sideUp_18 : decode cX4_sideUp 18 = .ok (.invokespecial 18, 3) := by decide +kernel
theorem dX4_sideUp_21 : decode cX4_sideUp 21 = .ok (.ireturn, 1) := by decide +kernel
set_option maxRecDepth 20000 in
theorem ggX4_turns_X8_began : GoodIn wsX4_turns wsX8_began := goodIn_r _ [6, 7, 8, 44, 45] (by decide +kernel) (by decide +kernel)
set_option maxRecDepth 20000 in
theorem gX4_turns_X8_began_n22 : GoodIn wsX4_turns (wsX8_began) := ggX4_turns_X8_began
theorem dX4_turns_0 : decode cX4_turns 0 = .ok (.aload_n 2, 1) := by decide +kernel
theorem dX4_turns_1 : decode cX4_turns 1 = .ok (.bipush 51, 2) := by decide +kernel
theorem dX4_turns_3 : decode cX4_turns 3 = .ok (.invokevirtual 22, 3) := by decide +kernel
theorem dX4_turns_6 : decode cX4_turns 6 = .ok (.aload_n 0, 1) := by decide +kernel
theorem dX4_turns_7 : decode cX4_turns 7 = .ok (.iload_n 1, 1) := by decide +kernel
theorem dX4_turns_8 : decode cX4_turns 8 = .ok (.aload_n 2, 1) := by decide +kernel
theorem dX4_turns_9 : decode cX4_turns 9 = .ok (.invokespecial 28, 3) := by decide +kernel
theorem dX4_turns_12 : decode cX4_turns 12 = .ok (.aload_n 0, 1) := by decide +kernel
theorem dX4_turns_13 : decode cX4_turns 13 = .ok (.getfield 32, 3) := by decide +kernel
theorem dX4_turns_16 : decode cX4_turns 16 = .ok (.ixor, 1) := by decide +kernel
theorem dX4_turns_17 : decode cX4_turns 17 = .ok (.ireturn, 1) := by decide +kernel
set_option maxRecDepth 20000 in
theorem ggX5_init_X7_init : GoodIn wsX5_init wsX7_init := goodIn_r _ [4, 5, 6, 7, 8, 9, 10, 11, 12, 13, 14, 15, 16, 17, 18, 19, 20, 21, 22, 23, 24, 25, 26, 27, 28, 29, 30, 31, 32, 33, 34, 35, 36, 37, 38, 39, 40, 41, 42, 43, 44, 45, 46, 47, 48, 49, 50, 51, 52, 53, 54, 55, 56, 57, 58, 59, 60, 61, 62, 63, 64, 65, 66, 67, 68, 69, 70, 71, 72, 73] (by decide +kernel) (by decide +kernel)
set_option maxRecDepth 20000 in
theorem gX5_init_X7_init : GoodIn wsX5_init (wsX7_init) := ggX5_init_X7_init
theorem dX5_init_0 : decode cX5_init 0 = .ok (.aload_n 0, 1) := by decide +kernel
theorem dX5_init_1 : decode cX5_init 1 = .ok (.iload_n 1, 1) := by decide +kernel
theorem dX5_init_2 : decode cX5_init 2 = .ok (.iload_n 2, 1) := by decide +kernel
theorem dX5_init_3 : decode cX5_init 3 = .ok (.iload_n 3, 1) := by decide +kernel
theorem dX5_init_4 : decode cX5_init 4 = .ok (.aload 4, 2) := by decide +kernel
theorem dX5_init_6 : decode cX5_init 6 = .ok (.invokespecial 3, 3) := by decide +kernel
theorem dX5_init_9 : decode cX5_init 9 = .ok (.return_, 1) := by decide +kernel
theorem dX5_sideUp_0 : decode cX5_sideUp 0 = .ok (.aload_n 1, 1) := by decide +kernel
theorem dX5_sideUp_1 : decode cX5_sideUp 1 = .ok (.getfield 9, 3) := by decide +kernel
theorem dX5_sideUp_4 : decode cX5_sideUp 4 = .ok (.aload_n 0, 1) := by decide +kernel
theorem dX5_sideUp_5 : decode cX5_sideUp 5 = .ok (.getfield 15, 3) := by decide +kernel
theorem dX5_sideUp_8 : decode cX5_sideUp 8 = .ok (.if_icmp .lt 7, 3) := by decide +kernel
theorem dX5_sideUp_11 : decode cX5_sideUp 11 = .ok (.iconst 0, 1) := by decide +kernel
theorem dX5_sideUp_12 : decode cX5_sideUp 12 = .ok (.goto 4, 3) := by decide +kernel
theorem dX5_sideUp_15 : decode cX5_sideUp 15 = .ok (.iconst 1, 1) := by decide +kernel
theorem dX5_sideUp_16 : decode cX5_sideUp 16 = .ok (.ireturn, 1) := by decide +kernel
set_option maxRecDepth 20000 in
theorem ggX5_leans_X8_began : GoodIn wsX5_leans wsX8_began := goodIn_r _ [4, 5, 6, 64, 65] (by decide +kernel) (by decide +kernel)
set_option maxRecDepth 20000 in
theorem gX5_leans_X8_began_n20 : GoodIn wsX5_leans (wsX8_began) := ggX5_leans_X8_began
set_option maxRecDepth 20000 in
theorem ggX5_leans_X7_leans : GoodIn wsX5_leans wsX7_leans := goodIn_r _ [12, 1, 2, 3, 4, 5, 6, 13, 14, 15, 16, 17, 18, 19, 20, 21, 22, 11, 23, 24, 25, 26, 27, 28, 29, 30, 31, 32, 33, 34, 35, 36, 37, 38, 39, 40, 41, 42, 43, 44, 45, 46, 47, 48, 49, 50, 51, 52, 53, 54, 55, 56, 57, 58, 59, 60, 61, 62, 63, 64, 65, 66, 67, 68, 69, 70, 71, 72, 73, 74, 75, 76, 77, 78, 79, 80, 81, 82, 83, 84, 85, 86, 87, 88, 89, 90, 91, 92, 93, 94, 95, 96, 97, 98, 99, 100] (by decide +kernel) (by decide +kernel)
set_option maxRecDepth 20000 in
theorem gX5_leans_X7_leans_s26 : GoodIn wsX5_leans (va_wsSU RX5 26 yX7_leans wsX7_leans) := goodIn_app (goodIn_of _ (by decide +kernel)) ggX5_leans_X7_leans
theorem dX5_leans_0 : decode cX5_leans 0 = .ok (.aload_n 2, 1) := by decide +kernel
theorem dX5_leans_1 : decode cX5_leans 1 = .ok (.bipush 31, 2) := by decide +kernel
theorem dX5_leans_3 : decode cX5_leans 3 = .ok (.invokevirtual 20, 3) := by decide +kernel
theorem dX5_leans_6 : decode cX5_leans 6 = .ok (.aload_n 0, 1) := by decide +kernel
theorem dX5_leans_7 : decode cX5_leans 7 = .ok (.iload_n 1, 1) := by decide +kernel
theorem dX5_leans_8 : decode cX5_leans 8 = .ok (.aload_n 2, 1) := by decide +kernel
theorem dX5_leans_9 : decode cX5_leans 9 = .ok (.invokespecial 26, 3) := by decide +kernel
theorem dX5_leans_12 : decode cX5_leans 12 = .ok (.bipush 7, 2) := by decide +kernel
theorem dX5_leans_14 : decode cX5_leans 14 = .ok (.ixor, 1) := by decide +kernel
theorem dX5_leans_15 : decode cX5_leans 15 = .ok (.ireturn, 1) := by decide +kernel
theorem dX6_init_0 : decode cX6_init 0 = .ok (.aload_n 0, 1) := by decide +kernel
theorem dX6_init_1 : decode cX6_init 1 = .ok (.invokespecial 3, 3) := by decide +kernel
theorem dX6_init_4 : decode cX6_init 4 = .ok (.aload_n 0, 1) := by decide +kernel
theorem dX6_init_5 : decode cX6_init 5 = .ok (.bipush 6, 2) := by decide +kernel
theorem dX6_init_7 : decode cX6_init 7 = .ok (.newarray .int, 2) := by decide +kernel
theorem dX6_init_9 : decode cX6_init 9 = .ok (.putfield 9, 3) := by decide +kernel
theorem dX6_init_12 : decode cX6_init 12 = .ok (.aload_n 0, 1) := by decide +kernel
theorem dX6_init_13 : decode cX6_init 13 = .ok (.bipush 6, 2) := by decide +kernel
theorem dX6_init_15 : decode cX6_init 15 = .ok (.newarray .int, 2) := by decide +kernel
theorem dX6_init_17 : decode cX6_init 17 = .ok (.putfield 15, 3) := by decide +kernel
theorem dX6_init_20 : decode cX6_init 20 = .ok (.aload_n 0, 1) := by decide +kernel
theorem dX6_init_21 : decode cX6_init 21 = .ok (.bipush 6, 2) := by decide +kernel
theorem dX6_init_23 : decode cX6_init 23 = .ok (.newarray .int, 2) := by decide +kernel
theorem dX6_init_25 : decode cX6_init 25 = .ok (.putfield 18, 3) := by decide +kernel
theorem dX6_init_28 : decode cX6_init 28 = .ok (.aload_n 0, 1) := by decide +kernel
theorem dX6_init_29 : decode cX6_init 29 = .ok (.bipush 6, 2) := by decide +kernel
theorem dX6_init_31 : decode cX6_init 31 = .ok (.newarray .int, 2) := by decide +kernel
theorem dX6_init_33 : decode cX6_init 33 = .ok (.putfield 21, 3) := by decide +kernel
theorem dX6_init_36 : decode cX6_init 36 = .ok (.aload_n 0, 1) := by decide +kernel
theorem dX6_init_37 : decode cX6_init 37 = .ok (.bipush 36, 2) := by decide +kernel
theorem dX6_init_39 : decode cX6_init 39 = .ok (.newarray .int, 2) := by decide +kernel
theorem dX6_init_41 : decode cX6_init 41 = .ok (.putfield 24, 3) := by decide +kernel
theorem dX6_init_44 : decode cX6_init 44 = .ok (.aload_n 0, 1) := by decide +kernel
theorem dX6_init_45 : decode cX6_init 45 = .ok (.bipush 36, 2) := by decide +kernel
theorem dX6_init_47 : decode cX6_init 47 = .ok (.newarray .int, 2) := by decide +kernel
theorem dX6_init_49 : decode cX6_init 49 = .ok (.putfield 27, 3) := by decide +kernel
theorem dX6_init_52 : decode cX6_init 52 = .ok (.aload_n 0, 1) := by decide +kernel
theorem dX6_init_53 : decode cX6_init 53 = .ok (.bipush 8, 2) := by decide +kernel
theorem dX6_init_55 : decode cX6_init 55 = .ok (.anewarray 30, 3) := by decide +kernel
theorem dX6_init_58 : decode cX6_init 58 = .ok (.putfield 32, 3) := by decide +kernel
theorem dX6_init_61 : decode cX6_init 61 = .ok (.aload_n 0, 1) := by decide +kernel
theorem dX6_init_62 : decode cX6_init 62 = .ok (.bipush 120, 2) := by decide +kernel
theorem dX6_init_64 : decode cX6_init 64 = .ok (.newarray .int, 2) := by decide +kernel
theorem dX6_init_66 : decode cX6_init 66 = .ok (.putfield 36, 3) := by decide +kernel
theorem dX6_init_69 : decode cX6_init 69 = .ok (.aload_n 0, 1) := by decide +kernel
theorem dX6_init_70 : decode cX6_init 70 = .ok (.bipush 16, 2) := by decide +kernel
theorem dX6_init_72 : decode cX6_init 72 = .ok (.newarray .int, 2) := by decide +kernel
theorem dX6_init_74 : decode cX6_init 74 = .ok (.putfield 39, 3) := by decide +kernel
theorem dX6_init_77 : decode cX6_init 77 = .ok (.return_, 1) := by decide +kernel
set_option maxRecDepth 20000 in
theorem ggX6_allThrown_X6_sumOf : GoodIn wsX6_allThrown wsX6_sumOf := goodIn_r _ [6, 7, 8, 9, 10, 11, 12, 13, 14, 15, 16, 17, 18, 19, 20, 21] (by decide +kernel) (by decide +kernel)
set_option maxRecDepth 20000 in
theorem gX6_allThrown_X6_sumOf : GoodIn wsX6_allThrown (wsV RX6 42 RX6 yX6_sumOf wsX6_sumOf) := goodIn_app (goodIn_of _ (by decide +kernel)) ggX6_allThrown_X6_sumOf
theorem dX6_allThrown_0 : decode cX6_allThrown 0 = .ok (.aload_n 0, 1) := by decide +kernel
theorem dX6_allThrown_1 : decode cX6_allThrown 1 = .ok (.aload_n 0, 1) := by decide +kernel
theorem dX6_allThrown_2 : decode cX6_allThrown 2 = .ok (.getfield 24, 3) := by decide +kernel
theorem dX6_allThrown_5 : decode cX6_allThrown 5 = .ok (.iload_n 1, 1) := by decide +kernel
theorem dX6_allThrown_6 : decode cX6_allThrown 6 = .ok (.invokevirtual 42, 3) := by decide +kernel
theorem dX6_allThrown_9 : decode cX6_allThrown 9 = .ok (.ireturn, 1) := by decide +kernel
set_option maxRecDepth 20000 in
theorem ggX6_allAlike_X6_sumOf : GoodIn wsX6_allAlike wsX6_sumOf := goodIn_r _ [6, 7, 8, 9, 10, 11, 12, 13, 14, 15, 16, 17, 18, 19, 20, 21] (by decide +kernel) (by decide +kernel)
set_option maxRecDepth 20000 in
theorem gX6_allAlike_X6_sumOf : GoodIn wsX6_allAlike (wsV RX6 42 RX6 yX6_sumOf wsX6_sumOf) := goodIn_app (goodIn_of _ (by decide +kernel)) ggX6_allAlike_X6_sumOf
theorem dX6_allAlike_0 : decode cX6_allAlike 0 = .ok (.aload_n 0, 1) := by decide +kernel
theorem dX6_allAlike_1 : decode cX6_allAlike 1 = .ok (.aload_n 0, 1) := by decide +kernel
theorem dX6_allAlike_2 : decode cX6_allAlike 2 = .ok (.getfield 27, 3) := by decide +kernel
theorem dX6_allAlike_5 : decode cX6_allAlike 5 = .ok (.iload_n 1, 1) := by decide +kernel
theorem dX6_allAlike_6 : decode cX6_allAlike 6 = .ok (.invokevirtual 42, 3) := by decide +kernel
theorem dX6_allAlike_9 : decode cX6_allAlike 9 = .ok (.ireturn, 1) := by decide +kernel
theorem dX6_sumOf_0 : decode cX6_sumOf 0 = .ok (.iconst 0, 1) := by decide +kernel
theorem dX6_sumOf_1 : decode cX6_sumOf 1 = .ok (.istore_n 3, 1) := by decide +kernel
theorem dX6_sumOf_2 : decode cX6_sumOf 2 = .ok (.iconst 0, 1) := by decide +kernel
theorem dX6_sumOf_3 : decode cX6_sumOf 3 = .ok (.istore 4, 2) := by decide +kernel
theorem dX6_sumOf_5 : decode cX6_sumOf 5 = .ok (.iload 4, 2) := by decide +kernel
theorem dX6_sumOf_7 : decode cX6_sumOf 7 = .ok (.aload_n 0, 1) := by decide +kernel
theorem dX6_sumOf_8 : decode cX6_sumOf 8 = .ok (.getfield 46, 3) := by decide +kernel
theorem dX6_sumOf_11 : decode cX6_sumOf 11 = .ok (.if_icmp .ge 21, 3) := by decide +kernel
theorem dX6_sumOf_14 : decode cX6_sumOf 14 = .ok (.iload_n 3, 1) := by decide +kernel
theorem dX6_sumOf_15 : decode cX6_sumOf 15 = .ok (.aload_n 1, 1) := by decide +kernel
theorem dX6_sumOf_16 : decode cX6_sumOf 16 = .ok (.iload_n 2, 1) := by decide +kernel
theorem dX6_sumOf_17 : decode cX6_sumOf 17 = .ok (.bipush 6, 2) := by decide +kernel
theorem dX6_sumOf_19 : decode cX6_sumOf 19 = .ok (.imul, 1) := by decide +kernel
theorem dX6_sumOf_20 : decode cX6_sumOf 20 = .ok (.iload 4, 2) := by decide +kernel
theorem dX6_sumOf_22 : decode cX6_sumOf 22 = .ok (.iadd, 1) := by decide +kernel
theorem dX6_sumOf_23 : decode cX6_sumOf 23 = .ok (.iaload, 1) := by decide +kernel
theorem dX6_sumOf_24 : decode cX6_sumOf 24 = .ok (.iadd, 1) := by decide +kernel
theorem dX6_sumOf_25 : decode cX6_sumOf 25 = .ok (.istore_n 3, 1) := by decide +kernel
theorem dX6_sumOf_26 : decode cX6_sumOf 26 = .ok (.iinc 4 1, 3) := by decide +kernel
theorem dX6_sumOf_29 : decode cX6_sumOf 29 = .ok (.goto (-24), 3) := by decide +kernel
theorem dX6_sumOf_32 : decode cX6_sumOf 32 = .ok (.iload_n 3, 1) := by decide +kernel
theorem dX6_sumOf_33 : decode cX6_sumOf 33 = .ok (.ireturn, 1) := by decide +kernel
theorem dX6_rises_0 : decode cX6_rises 0 = .ok (.iconst 1, 1) := by decide +kernel
theorem dX6_rises_1 : decode cX6_rises 1 = .ok (.iconst 2, 1) := by decide +kernel
theorem dX6_rises_2 : decode cX6_rises 2 = .ok (.aload_n 0, 1) := by decide +kernel
theorem dX6_rises_3 : decode cX6_rises 3 = .ok (.getfield 21, 3) := by decide +kernel
theorem dX6_rises_6 : decode cX6_rises 6 = .ok (.iload_n 1, 1) := by decide +kernel
theorem dX6_rises_7 : decode cX6_rises 7 = .ok (.iaload, 1) := by decide +kernel
theorem dX6_rises_8 : decode cX6_rises 8 = .ok (.imul, 1) := by decide +kernel
theorem dX6_rises_9 : decode cX6_rises 9 = .ok (.iconst 1, 1) := by decide +kernel
theorem dX6_rises_10 : decode cX6_rises 10 = .ok (.iadd, 1) := by decide +kernel
theorem dX6_rises_11 : decode cX6_rises 11 = .ok (.invokestatic 50, 3) := by decide +kernel
theorem dX6_rises_14 : decode cX6_rises 14 = .ok (.ireturn, 1) := by decide +kernel
set_option maxRecDepth 20000 in
theorem ggX6_becomes_X6_copy : GoodIn wsX6_becomes wsX6_copy := goodIn_r _ [18, 19, 20, 21, 22, 23, 24, 25, 26] (by decide +kernel) (by decide +kernel)
set_option maxRecDepth 20000 in
theorem gX6_becomes_X6_copy : GoodIn wsX6_becomes (va_wsS RX6 68 yX6_copy wsX6_copy) := goodIn_app (goodIn_of _ (by decide +kernel)) ggX6_becomes_X6_copy
theorem dX6_becomes_0 : decode cX6_becomes 0 = .ok (.aload_n 0, 1) := by decide +kernel
theorem dX6_becomes_1 : decode cX6_becomes 1 = .ok (.aload_n 1, 1) := by decide +kernel
theorem dX6_becomes_2 : decode cX6_becomes 2 = .ok (.getfield 46, 3) := by decide +kernel
theorem dX6_becomes_5 : decode cX6_becomes 5 = .ok (.putfield 46, 3) := by decide +kernel
theorem dX6_becomes_8 : decode cX6_becomes 8 = .ok (.aload_n 0, 1) := by decide +kernel
theorem dX6_becomes_9 : decode cX6_becomes 9 = .ok (.aload_n 1, 1) := by decide +kernel
theorem dX6_becomes_10 : decode cX6_becomes 10 = .ok (.getfield 56, 3) := by decide +kernel
theorem dX6_becomes_13 : decode cX6_becomes 13 = .ok (.putfield 56, 3) := by decide +kernel
theorem dX6_becomes_16 : decode cX6_becomes 16 = .ok (.aload_n 0, 1) := by decide +kernel
theorem dX6_becomes_17 : decode cX6_becomes 17 = .ok (.aload_n 1, 1) := by decide +kernel
theorem dX6_becomes_18 : decode cX6_becomes 18 = .ok (.getfield 59, 3) := by decide +kernel
theorem dX6_becomes_21 : decode cX6_becomes 21 = .ok (.putfield 59, 3) := by decide +kernel
theorem dX6_becomes_24 : decode cX6_becomes 24 = .ok (.aload_n 0, 1) := by decide +kernel
theorem dX6_becomes_25 : decode cX6_becomes 25 = .ok (.aload_n 1, 1) := by decide +kernel
theorem dX6_becomes_26 : decode cX6_becomes 26 = .ok (.getfield 62, 3) := by decide +kernel
theorem dX6_becomes_29 : decode cX6_becomes 29 = .ok (.putfield 62, 3) := by decide +kernel
theorem dX6_becomes_32 : decode cX6_becomes 32 = .ok (.aload_n 0, 1) := by decide +kernel
theorem dX6_becomes_33 : decode cX6_becomes 33 = .ok (.aload_n 1, 1) := by decide +kernel
theorem dX6_becomes_34 : decode cX6_becomes 34 = .ok (.getfield 65, 3) := by decide +kernel
theorem dX6_becomes_37 : decode cX6_becomes 37 = .ok (.putfield 65, 3) := by decide +kernel
theorem dX6_becomes_40 : decode cX6_becomes 40 = .ok (.aload_n 1, 1) := by decide +kernel
theorem dX6_becomes_41 : decode cX6_becomes 41 = .ok (.getfield 9, 3) := by decide +kernel
theorem dX6_becomes_44 : decode cX6_becomes 44 = .ok (.aload_n 0, 1) := by decide +kernel
theorem dX6_becomes_45 : decode cX6_becomes 45 = .ok (.getfield 9, 3) := by decide +kernel
theorem dX6_becomes_48 : decode cX6_becomes 48 = .ok (.invokestatic 68, 3) := by decide +kernel
theorem dX6_becomes_51 : decode cX6_becomes 51 = .ok (.aload_n 1, 1) := by decide +kernel
theorem dX6_becomes_52 : decode cX6_becomes 52 = .ok (.getfield 15, 3) := by decide +kernel
theorem dX6_becomes_55 : decode cX6_becomes 55 = .ok (.aload_n 0, 1) := by decide +kernel
theorem dX6_becomes_56 : decode cX6_becomes 56 = .ok (.getfield 15, 3) := by decide +kernel
theorem dX6_becomes_59 : decode cX6_becomes 59 = .ok (.invokestatic 68, 3) := by decide +kernel
theorem dX6_becomes_62 : decode cX6_becomes 62 = .ok (.aload_n 1, 1) := by decide +kernel
theorem dX6_becomes_63 : decode cX6_becomes 63 = .ok (.getfield 18, 3) := by decide +kernel
theorem dX6_becomes_66 : decode cX6_becomes 66 = .ok (.aload_n 0, 1) := by decide +kernel
theorem dX6_becomes_67 : decode cX6_becomes 67 = .ok (.getfield 18, 3) := by decide +kernel
theorem dX6_becomes_70 : decode cX6_becomes 70 = .ok (.invokestatic 68, 3) := by decide +kernel
theorem dX6_becomes_73 : decode cX6_becomes 73 = .ok (.aload_n 1, 1) := by decide +kernel
theorem dX6_becomes_74 : decode cX6_becomes 74 = .ok (.getfield 21, 3) := by decide +kernel
theorem dX6_becomes_77 : decode cX6_becomes 77 = .ok (.aload_n 0, 1) := by decide +kernel
theorem dX6_becomes_78 : decode cX6_becomes 78 = .ok (.getfield 21, 3) := by decide +kernel
theorem dX6_becomes_81 : decode cX6_becomes 81 = .ok (.invokestatic 68, 3) := by decide +kernel
theorem dX6_becomes_84 : decode cX6_becomes 84 = .ok (.aload_n 1, 1) := by decide +kernel
theorem dX6_becomes_85 : decode cX6_becomes 85 = .ok (.getfield 24, 3) := by decide +kernel
theorem dX6_becomes_88 : decode cX6_becomes 88 = .ok (.aload_n 0, 1) := by decide +kernel
theorem dX6_becomes_89 : decode cX6_becomes 89 = .ok (.getfield 24, 3) := by decide +kernel
theorem dX6_becomes_92 : decode cX6_becomes 92 = .ok (.invokestatic 68, 3) := by decide +kernel
theorem dX6_becomes_95 : decode cX6_becomes 95 = .ok (.aload_n 1, 1) := by decide +kernel
theorem dX6_becomes_96 : decode cX6_becomes 96 = .ok (.getfield 27, 3) := by decide +kernel
theorem dX6_becomes_99 : decode cX6_becomes 99 = .ok (.aload_n 0, 1) := by decide +kernel
theorem dX6_becomes_100 : decode cX6_becomes 100 = .ok (.getfield 27, 3) := by decide +kernel
theorem dX6_becomes_103 : decode cX6_becomes 103 = .ok (.invokestatic 68, 3) := by decide +kernel
theorem dX6_becomes_106 : decode cX6_becomes 106 = .ok (.aload_n 1, 1) := by decide +kernel
theorem dX6_becomes_107 : decode cX6_becomes 107 = .ok (.getfield 36, 3) := by decide +kernel
theorem dX6_becomes_110 : decode cX6_becomes 110 = .ok (.aload_n 0, 1) := by decide +kernel
theorem dX6_becomes_111 : decode cX6_becomes 111 = .ok (.getfield 36, 3) := by decide +kernel
theorem dX6_becomes_114 : decode cX6_becomes 114 = .ok (.invokestatic 68, 3) := by decide +kernel
theorem dX6_becomes_117 : decode cX6_becomes 117 = .ok (.aload_n 1, 1) := by decide +kernel
theorem dX6_becomes_118 : decode cX6_becomes 118 = .ok (.getfield 39, 3) := by decide +kernel
theorem dX6_becomes_121 : decode cX6_becomes 121 = .ok (.aload_n 0, 1) := by decide +kernel
theorem dX6_becomes_122 : decode cX6_becomes 122 = .ok (.getfield 39, 3) := by decide +kernel
theorem dX6_becomes_125 : decode cX6_becomes 125 = .ok (.invokestatic 68, 3) := by decide +kernel
theorem dX6_becomes_128 : decode cX6_becomes 128 = .ok (.iconst 0, 1) := by decide +kernel
theorem dX6_becomes_129 : decode cX6_becomes 129 = .ok (.istore_n 2, 1) := by decide +kernel
theorem dX6_becomes_130 : decode cX6_becomes 130 = .ok (.iload_n 2, 1) := by decide +kernel
theorem dX6_becomes_131 : decode cX6_becomes 131 = .ok (.bipush 8, 2) := by decide +kernel
theorem dX6_becomes_133 : decode cX6_becomes 133 = .ok (.if_icmp .ge 21, 3) := by decide +kernel
theorem dX6_becomes_136 : decode cX6_becomes 136 = .ok (.aload_n 0, 1) := by decide +kernel
theorem dX6_becomes_137 : decode cX6_becomes 137 = .ok (.getfield 32, 3) := by decide +kernel
theorem dX6_becomes_140 : decode cX6_becomes 140 = .ok (.iload_n 2, 1) := by decide +kernel
theorem dX6_becomes_141 : decode cX6_becomes 141 = .ok (.aload_n 1, 1) := by decide +kernel
theorem dX6_becomes_142 : decode cX6_becomes 142 = .ok (.getfield 32, 3) := by decide +kernel
theorem dX6_becomes_145 : decode cX6_becomes 145 = .ok (.iload_n 2, 1) := by decide +kernel
theorem dX6_becomes_146 : decode cX6_becomes 146 = .ok (.aaload, 1) := by decide +kernel
theorem dX6_becomes_147 : decode cX6_becomes 147 = .ok (.aastore, 1) := by decide +kernel
theorem dX6_becomes_148 : decode cX6_becomes 148 = .ok (.iinc 2 1, 3) := by decide +kernel
theorem dX6_becomes_151 : decode cX6_becomes 151 = .ok (.goto (-21), 3) := by decide +kernel
theorem dX6_becomes_154 : decode cX6_becomes 154 = .ok (.return_, 1) := by decide +kernel
theorem dX6_copy_0 : decode cX6_copy 0 = .ok (.aload_n 0, 1) := by decide +kernel
theorem dX6_copy_1 : decode cX6_copy 1 = .ok (.iconst 0, 1) := by decide +kernel
theorem dX6_copy_2 : decode cX6_copy 2 = .ok (.aload_n 1, 1) := by decide +kernel
theorem dX6_copy_3 : decode cX6_copy 3 = .ok (.iconst 0, 1) := by decide +kernel
theorem dX6_copy_4 : decode cX6_copy 4 = .ok (.aload_n 0, 1) := by decide +kernel
theorem dX6_copy_5 : decode cX6_copy 5 = .ok (.arraylength, 1) := by decide +kernel
theorem dX6_copy_6 : decode cX6_copy 6 = .ok (.aload_n 1, 1) := by decide +kernel
theorem dX6_copy_7 : decode cX6_copy 7 = .ok (.arraylength, 1) := by decide +kernel
theorem dX6_copy_8 : decode cX6_copy 8 = .ok (.invokestatic 72, 3) := by decide +kernel
theorem dX6_copy_11 : decode cX6_copy 11 = .ok (.invokestatic 75, 3) := by decide +kernel
theorem dX6_copy_14 : decode cX6_copy 14 = .ok (.return_, 1) := by decide +kernel
set_option maxRecDepth 20000 in
theorem ggX7_init_J7_copyOf_59c91 : GoodIn wsX7_init wsJ7_copyOf_59c91 := goodIn_r _ [12, 13, 14, 15, 16, 17, 18, 19, 20, 21, 22, 23, 24, 25, 26, 27] (by decide +kernel) (by decide +kernel)
set_option maxRecDepth 20000 in
theorem gX7_init_J7_copyOf_59c91 : GoodIn wsX7_init (va_wsS RX7 32 yJ7_copyOf_59c91 wsJ7_copyOf_59c91) := goodIn_app (goodIn_of _ (by decide +kernel)) ggX7_init_J7_copyOf_59c91
theorem dX7_init_0 : decode cX7_init 0 = .ok (.aload_n 0, 1) := by decide +kernel
theorem dX7_init_1 : decode cX7_init 1 = .ok (.invokespecial 1, 3) := by decide +kernel
theorem dX7_init_4 : decode cX7_init 4 = .ok (.aload_n 0, 1) := by decide +kernel
theorem dX7_init_5 : decode cX7_init 5 = .ok (.iload_n 1, 1) := by decide +kernel
theorem dX7_init_6 : decode cX7_init 6 = .ok (.putfield 7, 3) := by decide +kernel
theorem dX7_init_9 : decode cX7_init 9 = .ok (.aload_n 0, 1) := by decide +kernel
theorem dX7_init_10 : decode cX7_init 10 = .ok (.iload_n 2, 1) := by decide +kernel
theorem dX7_init_11 : decode cX7_init 11 = .ok (.putfield 13, 3) := by decide +kernel
theorem dX7_init_14 : decode cX7_init 14 = .ok (.aload_n 0, 1) := by decide +kernel
theorem dX7_init_15 : decode cX7_init 15 = .ok (.iload_n 3, 1) := by decide +kernel
theorem dX7_init_16 : decode cX7_init 16 = .ok (.putfield 16, 3) := by decide +kernel
theorem dX7_init_19 : decode cX7_init 19 = .ok (.aload_n 0, 1) := by decide +kernel
theorem dX7_init_20 : decode cX7_init 20 = .ok (.aload 4, 2) := by decide +kernel
theorem dX7_init_22 : decode cX7_init 22 = .ok (.getfield 19, 3) := by decide +kernel
theorem dX7_init_25 : decode cX7_init 25 = .ok (.putfield 24, 3) := by decide +kernel
theorem dX7_init_28 : decode cX7_init 28 = .ok (.aload_n 0, 1) := by decide +kernel
theorem dX7_init_29 : decode cX7_init 29 = .ok (.aload 4, 2) := by decide +kernel
theorem dX7_init_31 : decode cX7_init 31 = .ok (.getfield 25, 3) := by decide +kernel
theorem dX7_init_34 : decode cX7_init 34 = .ok (.aload 4, 2) := by decide +kernel
theorem dX7_init_36 : decode cX7_init 36 = .ok (.getfield 29, 3) := by decide +kernel
theorem dX7_init_39 : decode cX7_init 39 = .ok (.invokestatic 32, 3) := by decide +kernel
theorem dX7_init_42 : decode cX7_init 42 = .ok (.putfield 38, 3) := by decide +kernel
theorem dX7_init_45 : decode cX7_init 45 = .ok (.return_, 1) := by decide +kernel
theorem dX7_sideUp_0 : decode cX7_sideUp 0 = .ok (.iload_n 2, 1) := by decide +kernel
theorem dX7_sideUp_1 : decode cX7_sideUp 1 = .ok (.ireturn, 1) := by decide +kernel
set_option maxRecDepth 20000 in
theorem ggX7_turns_X8_began : GoodIn wsX7_turns wsX8_began := goodIn_r _ [5, 6, 7, 43, 44] (by decide +kernel) (by decide +kernel)
set_option maxRecDepth 20000 in
theorem gX7_turns_X8_began_n39 : GoodIn wsX7_turns (wsX8_began) := ggX7_turns_X8_began
theorem dX7_turns_0 : decode cX7_turns 0 = .ok (.aload_n 2, 1) := by decide +kernel
theorem dX7_turns_1 : decode cX7_turns 1 = .ok (.iconst 1, 1) := by decide +kernel
theorem dX7_turns_2 : decode cX7_turns 2 = .ok (.invokevirtual 39, 3) := by decide +kernel
theorem dX7_turns_5 : decode cX7_turns 5 = .ok (.iload_n 1, 1) := by decide +kernel
theorem dX7_turns_6 : decode cX7_turns 6 = .ok (.aload_n 0, 1) := by decide +kernel
theorem dX7_turns_7 : decode cX7_turns 7 = .ok (.getfield 13, 3) := by decide +kernel
theorem dX7_turns_10 : decode cX7_turns 10 = .ok (.iadd, 1) := by decide +kernel
theorem dX7_turns_11 : decode cX7_turns 11 = .ok (.ireturn, 1) := by decide +kernel
set_option maxRecDepth 20000 in
theorem ggX7_lands_X8_began : GoodIn wsX7_lands wsX8_began := goodIn_r _ [5, 6, 7, 68, 69] (by decide +kernel) (by decide +kernel)
set_option maxRecDepth 20000 in
theorem gX7_lands_X8_began_n39 : GoodIn wsX7_lands (wsX8_began) := ggX7_lands_X8_began
set_option maxRecDepth 20000 in
theorem ggX7_lands_X7_turns : GoodIn wsX7_lands wsX7_turns := goodIn_r _ [13, 14, 2, 3, 4, 5, 6, 7, 33, 34, 35, 36, 37, 38, 39, 40, 41, 42, 43, 44, 45, 46, 47, 48, 49, 50, 51, 52, 53, 54, 55, 56, 57, 58, 59, 60, 61, 62, 63, 64, 65, 66, 67, 68, 69] (by decide +kernel) (by decide +kernel)
set_option maxRecDepth 20000 in
theorem gX7_lands_X7_turns_u45X0 : GoodIn wsX7_lands (va_wsU RX7 45 RX0 "HeadsByHair$Throw" ⟨"HeadsByHair$Throw", "turns", "(ILHeadsByHair$Trace;)I"⟩ yX7_turns wsX7_turns) := goodIn_app (goodIn_of _ (by decide +kernel)) ggX7_lands_X7_turns
set_option maxRecDepth 20000 in
theorem gX7_lands_X7_turns_u45X1 : GoodIn wsX7_lands (va_wsU RX7 45 RX1 "HeadsByHair$Throw" ⟨"HeadsByHair$Throw", "turns", "(ILHeadsByHair$Trace;)I"⟩ yX7_turns wsX7_turns) := goodIn_app (goodIn_of _ (by decide +kernel)) ggX7_lands_X7_turns
set_option maxRecDepth 20000 in
theorem ggX7_lands_X4_turns : GoodIn wsX7_lands wsX4_turns := goodIn_r _ [20, 21, 22, 2, 3, 4, 5, 6, 7, 33, 34, 35, 36, 37, 38, 39, 40, 41, 42, 43, 44, 45, 46, 47, 48, 49, 50, 51, 52, 53, 54, 55, 56, 57, 58, 59, 60, 61, 62, 63, 64, 65, 66, 67, 68, 69] (by decide +kernel) (by decide +kernel)
set_option maxRecDepth 20000 in
theorem gX7_lands_X4_turns_u45X4 : GoodIn wsX7_lands (va_wsO RX7 45 RX4 "HeadsByHair$Throw" ⟨"HeadsByHair$Throw", "turns", "(ILHeadsByHair$Trace;)I"⟩ yX4_turns wsX4_turns) := goodIn_app (goodIn_of _ (by decide +kernel)) ggX7_lands_X4_turns
set_option maxRecDepth 20000 in
theorem gX7_lands_X7_turns_u45X5 : GoodIn wsX7_lands (va_wsU RX7 45 RX5 "HeadsByHair$Throw" ⟨"HeadsByHair$Throw", "turns", "(ILHeadsByHair$Trace;)I"⟩ yX7_turns wsX7_turns) := goodIn_app (goodIn_of _ (by decide +kernel)) ggX7_lands_X7_turns
set_option maxRecDepth 20000 in
theorem gX7_lands_X7_turns : GoodIn wsX7_lands (wsV RX7 45 RX7 yX7_turns wsX7_turns) := goodIn_app (goodIn_of _ (by decide +kernel)) ggX7_lands_X7_turns
set_option maxRecDepth 20000 in
theorem ggX7_lands_X9_turns : GoodIn wsX7_lands wsX9_turns := goodIn_r _ [29, 2, 3, 4, 5, 6, 7, 30, 9, 31, 11, 12, 13, 14, 68, 69, 33, 34, 35, 36, 37, 38, 39, 40, 41, 42, 43, 44, 45, 46, 47, 48, 49, 50, 51, 52, 53, 54, 55, 56, 57, 58, 59, 60, 61, 62, 63, 64, 65, 66, 67] (by decide +kernel) (by decide +kernel)
set_option maxRecDepth 20000 in
theorem gX7_lands_X9_turns_u45X9 : GoodIn wsX7_lands (va_wsO RX7 45 RX9 "HeadsByHair$Throw" ⟨"HeadsByHair$Throw", "turns", "(ILHeadsByHair$Trace;)I"⟩ yX9_turns wsX9_turns) := goodIn_app (goodIn_of _ (by decide +kernel)) ggX7_lands_X9_turns
set_option maxRecDepth 20000 in
theorem gX7_lands_X9_turns_u45X10 : GoodIn wsX7_lands (va_wsO RX7 45 RX10 "HeadsByHair$Throw" ⟨"HeadsByHair$Throw", "turns", "(ILHeadsByHair$Trace;)I"⟩ yX9_turns wsX9_turns) := goodIn_app (goodIn_of _ (by decide +kernel)) ggX7_lands_X9_turns
theorem dX7_lands_0 : decode cX7_lands 0 = .ok (.aload_n 2, 1) := by decide +kernel
theorem dX7_lands_1 : decode cX7_lands 1 = .ok (.iconst 2, 1) := by decide +kernel
theorem dX7_lands_2 : decode cX7_lands 2 = .ok (.invokevirtual 39, 3) := by decide +kernel
theorem dX7_lands_5 : decode cX7_lands 5 = .ok (.aload_n 0, 1) := by decide +kernel
theorem dX7_lands_6 : decode cX7_lands 6 = .ok (.iload_n 1, 1) := by decide +kernel
theorem dX7_lands_7 : decode cX7_lands 7 = .ok (.aload_n 2, 1) := by decide +kernel
theorem dX7_lands_8 : decode cX7_lands 8 = .ok (.invokevirtual 45, 3) := by decide +kernel
theorem dX7_lands_11 : decode cX7_lands 11 = .ok (.aload_n 0, 1) := by decide +kernel
theorem dX7_lands_12 : decode cX7_lands 12 = .ok (.getfield 16, 3) := by decide +kernel
theorem dX7_lands_15 : decode cX7_lands 15 = .ok (.isub, 1) := by decide +kernel
theorem dX7_lands_16 : decode cX7_lands 16 = .ok (.ireturn, 1) := by decide +kernel
set_option maxRecDepth 20000 in
theorem ggX7_leans_X8_began : GoodIn wsX7_leans wsX8_began := goodIn_r _ [4, 5, 6, 59, 60] (by decide +kernel) (by decide +kernel)
set_option maxRecDepth 20000 in
theorem gX7_leans_X8_began_n39 : GoodIn wsX7_leans (wsX8_began) := ggX7_leans_X8_began
set_option maxRecDepth 20000 in
theorem ggX7_leans_X0_lands : GoodIn wsX7_leans wsX0_lands := goodIn_r _ [13, 1, 2, 3, 4, 5, 6, 14, 8, 15, 16, 17, 18, 19, 20, 21, 22, 23, 24, 25, 26, 27, 28, 29, 30, 31, 32, 33, 34, 35, 36, 37, 38, 39, 40, 41, 42, 43, 59, 60, 61, 62, 63, 64, 65, 66, 67, 68, 69, 70, 71, 72, 73, 74, 75, 76, 77, 78, 79, 80, 81, 82, 83, 84, 85, 86, 87, 88, 89, 90, 91, 92, 93, 94, 95] (by decide +kernel) (by decide +kernel)
set_option maxRecDepth 20000 in
theorem gX7_leans_X0_lands_u49X0 : GoodIn wsX7_leans (va_wsO RX7 49 RX0 "HeadsByHair$Throw" ⟨"HeadsByHair$Throw", "lands", "(ILHeadsByHair$Trace;)I"⟩ yX0_lands wsX0_lands) := goodIn_app (goodIn_of _ (by decide +kernel)) ggX7_leans_X0_lands
set_option maxRecDepth 20000 in
theorem ggX7_leans_X1_lands : GoodIn wsX7_leans wsX1_lands := goodIn_r _ [47, 48, 49, 1, 2, 3, 4, 5, 6, 50, 51, 52, 11, 12, 13, 14, 8, 15, 16, 17, 18, 19, 20, 21, 22, 23, 24, 25, 26, 27, 28, 29, 30, 31, 32, 33, 34, 35, 36, 37, 38, 39, 40, 41, 42, 43, 61, 62, 63, 64, 65, 66, 67, 68, 69, 70, 71, 72, 73, 74, 75, 76, 77, 78, 79, 80, 81, 82, 83, 84, 85, 86, 87, 88, 89, 90, 91, 92, 93, 94, 95, 59, 60] (by decide +kernel) (by decide +kernel)
set_option maxRecDepth 20000 in
theorem gX7_leans_X1_lands_u49X1 : GoodIn wsX7_leans (va_wsO RX7 49 RX1 "HeadsByHair$Throw" ⟨"HeadsByHair$Throw", "lands", "(ILHeadsByHair$Trace;)I"⟩ yX1_lands wsX1_lands) := goodIn_app (goodIn_of _ (by decide +kernel)) ggX7_leans_X1_lands
set_option maxRecDepth 20000 in
theorem ggX7_leans_X7_lands : GoodIn wsX7_leans wsX7_lands := goodIn_r _ [18, 19, 1, 2, 3, 4, 5, 6, 20, 21, 22, 23, 17, 24, 25, 26, 27, 28, 29, 30, 31, 32, 33, 34, 35, 36, 37, 38, 39, 40, 41, 42, 43, 61, 62, 63, 64, 65, 66, 67, 68, 69, 70, 71, 72, 73, 74, 75, 76, 77, 78, 79, 80, 81, 82, 83, 84, 85, 86, 87, 88, 89, 90, 91, 92, 93, 94, 95, 59, 60] (by decide +kernel) (by decide +kernel)
set_option maxRecDepth 20000 in
theorem gX7_leans_X7_lands_u49X4 : GoodIn wsX7_leans (va_wsU RX7 49 RX4 "HeadsByHair$Throw" ⟨"HeadsByHair$Throw", "lands", "(ILHeadsByHair$Trace;)I"⟩ yX7_lands wsX7_lands) := goodIn_app (goodIn_of _ (by decide +kernel)) ggX7_leans_X7_lands
set_option maxRecDepth 20000 in
theorem gX7_leans_X7_lands_u49X5 : GoodIn wsX7_leans (va_wsU RX7 49 RX5 "HeadsByHair$Throw" ⟨"HeadsByHair$Throw", "lands", "(ILHeadsByHair$Trace;)I"⟩ yX7_lands wsX7_lands) := goodIn_app (goodIn_of _ (by decide +kernel)) ggX7_leans_X7_lands
set_option maxRecDepth 20000 in
theorem gX7_leans_X7_lands : GoodIn wsX7_leans (wsV RX7 49 RX7 yX7_lands wsX7_lands) := goodIn_app (goodIn_of _ (by decide +kernel)) ggX7_leans_X7_lands
set_option maxRecDepth 20000 in
theorem gX7_leans_X7_lands_u49X9 : GoodIn wsX7_leans (va_wsU RX7 49 RX9 "HeadsByHair$Throw" ⟨"HeadsByHair$Throw", "lands", "(ILHeadsByHair$Trace;)I"⟩ yX7_lands wsX7_lands) := goodIn_app (goodIn_of _ (by decide +kernel)) ggX7_leans_X7_lands
set_option maxRecDepth 20000 in
theorem gX7_leans_X7_lands_u49X10 : GoodIn wsX7_leans (va_wsU RX7 49 RX10 "HeadsByHair$Throw" ⟨"HeadsByHair$Throw", "lands", "(ILHeadsByHair$Trace;)I"⟩ yX7_lands wsX7_lands) := goodIn_app (goodIn_of _ (by decide +kernel)) ggX7_leans_X7_lands
theorem dX7_leans_0 : decode cX7_leans 0 = .ok (.aload_n 2, 1) := by decide +kernel
theorem dX7_leans_1 : decode cX7_leans 1 = .ok (.iconst 3, 1) := by decide +kernel
theorem dX7_leans_2 : decode cX7_leans 2 = .ok (.invokevirtual 39, 3) := by decide +kernel
theorem dX7_leans_5 : decode cX7_leans 5 = .ok (.aload_n 0, 1) := by decide +kernel
theorem dX7_leans_6 : decode cX7_leans 6 = .ok (.iload_n 1, 1) := by decide +kernel
theorem dX7_leans_7 : decode cX7_leans 7 = .ok (.aload_n 2, 1) := by decide +kernel
theorem dX7_leans_8 : decode cX7_leans 8 = .ok (.invokevirtual 49, 3) := by decide +kernel
theorem dX7_leans_11 : decode cX7_leans 11 = .ok (.iconst 2, 1) := by decide +kernel
theorem dX7_leans_12 : decode cX7_leans 12 = .ok (.imul, 1) := by decide +kernel
theorem dX7_leans_13 : decode cX7_leans 13 = .ok (.ireturn, 1) := by decide +kernel
theorem dX7_sideByAngle_0 : decode cX7_sideByAngle 0 = .ok (.iload_n 0, 1) := by decide +kernel
theorem dX7_sideByAngle_1 : decode cX7_sideByAngle 1 = .ok (.iload_n 1, 1) := by decide +kernel
theorem dX7_sideByAngle_2 : decode cX7_sideByAngle 2 = .ok (.if_icmp .ge 7, 3) := by decide +kernel
theorem dX7_sideByAngle_5 : decode cX7_sideByAngle 5 = .ok (.iload_n 2, 1) := by decide +kernel
theorem dX7_sideByAngle_6 : decode cX7_sideByAngle 6 = .ok (.goto 6, 3) := by decide +kernel
theorem dX7_sideByAngle_9 : decode cX7_sideByAngle 9 = .ok (.iconst 1, 1) := by decide +kernel
theorem dX7_sideByAngle_10 : decode cX7_sideByAngle 10 = .ok (.iload_n 2, 1) := by decide +kernel
theorem dX7_sideByAngle_11 : decode cX7_sideByAngle 11 = .ok (.isub, 1) := by decide +kernel
theorem dX7_sideByAngle_12 : decode cX7_sideByAngle 12 = .ok (.ireturn, 1) := by decide +kernel
theorem dX8_init_0 : decode cX8_init 0 = .ok (.aload_n 0, 1) := by decide +kernel
theorem dX8_init_1 : decode cX8_init 1 = .ok (.invokespecial 3, 3) := by decide +kernel
theorem dX8_init_4 : decode cX8_init 4 = .ok (.aload_n 0, 1) := by decide +kernel
theorem dX8_init_5 : decode cX8_init 5 = .ok (.bipush 20, 2) := by decide +kernel
theorem dX8_init_7 : decode cX8_init 7 = .ok (.newarray .int, 2) := by decide +kernel
theorem dX8_init_9 : decode cX8_init 9 = .ok (.putfield 9, 3) := by decide +kernel
theorem dX8_init_12 : decode cX8_init 12 = .ok (.return_, 1) := by decide +kernel
theorem dX8_began_0 : decode cX8_began 0 = .ok (.aload_n 0, 1) := by decide +kernel
theorem dX8_began_1 : decode cX8_began 1 = .ok (.getfield 15, 3) := by decide +kernel
theorem dX8_began_4 : decode cX8_began 4 = .ok (.bipush 20, 2) := by decide +kernel
theorem dX8_began_6 : decode cX8_began 6 = .ok (.if_icmp .ge 13, 3) := by decide +kernel
theorem dX8_began_9 : decode cX8_began 9 = .ok (.aload_n 0, 1) := by decide +kernel
theorem dX8_began_10 : decode cX8_began 10 = .ok (.getfield 9, 3) := by decide +kernel
theorem dX8_began_13 : decode cX8_began 13 = .ok (.aload_n 0, 1) := by decide +kernel
theorem dX8_began_14 : decode cX8_began 14 = .ok (.getfield 15, 3) := by decide +kernel
theorem dX8_began_17 : decode cX8_began 17 = .ok (.iload_n 1, 1) := by decide +kernel
theorem dX8_began_18 : decode cX8_began 18 = .ok (.iastore, 1) := by decide +kernel
theorem dX8_began_19 : decode cX8_began 19 = .ok (.aload_n 0, 1) := by decide +kernel
theorem dX8_began_20 : decode cX8_began 20 = .ok (.dup, 1) := by decide +kernel
theorem dX8_began_21 : decode cX8_began 21 = .ok (.getfield 15, 3) := by decide +kernel
theorem dX8_began_24 : decode cX8_began 24 = .ok (.iconst 1, 1) := by decide +kernel
theorem dX8_began_25 : decode cX8_began 25 = .ok (.iadd, 1) := by decide +kernel
theorem dX8_began_26 : decode cX8_began 26 = .ok (.putfield 15, 3) := by decide +kernel
theorem dX8_began_29 : decode cX8_began 29 = .ok (.return_, 1) := by decide +kernel
set_option maxRecDepth 20000 in
theorem ggX9_init_X7_init : GoodIn wsX9_init wsX7_init := goodIn_r _ [4, 5, 6, 7, 8, 9, 10, 11, 12, 13, 14, 15, 16, 17, 18, 19, 20, 21, 22, 23, 24, 25, 26, 27, 28, 29, 30, 31, 32, 33, 34, 35, 36, 37, 38, 39, 40, 41, 42, 43, 44, 45, 46, 47, 48, 49, 50, 51, 52, 53, 54, 55, 56, 57, 58, 59, 60, 61, 62, 63, 64, 65, 66, 67, 68, 69, 70, 71, 72, 73] (by decide +kernel) (by decide +kernel)
set_option maxRecDepth 20000 in
theorem gX9_init_X7_init : GoodIn wsX9_init (wsX7_init) := ggX9_init_X7_init
theorem dX9_init_0 : decode cX9_init 0 = .ok (.aload_n 0, 1) := by decide +kernel
theorem dX9_init_1 : decode cX9_init 1 = .ok (.iload_n 1, 1) := by decide +kernel
theorem dX9_init_2 : decode cX9_init 2 = .ok (.iload_n 2, 1) := by decide +kernel
theorem dX9_init_3 : decode cX9_init 3 = .ok (.iload_n 3, 1) := by decide +kernel
theorem dX9_init_4 : decode cX9_init 4 = .ok (.aload 4, 2) := by decide +kernel
theorem dX9_init_6 : decode cX9_init 6 = .ok (.invokespecial 3, 3) := by decide +kernel
theorem dX9_init_9 : decode cX9_init 9 = .ok (.return_, 1) := by decide +kernel
theorem dX9_sideUp_0 : decode cX9_sideUp 0 = .ok (.aload_n 1, 1) := by decide +kernel
theorem dX9_sideUp_1 : decode cX9_sideUp 1 = .ok (.getfield 9, 3) := by decide +kernel
theorem dX9_sideUp_4 : decode cX9_sideUp 4 = .ok (.bipush 50, 2) := by decide +kernel
theorem dX9_sideUp_6 : decode cX9_sideUp 6 = .ok (.iload_n 2, 1) := by decide +kernel
theorem dX9_sideUp_7 : decode cX9_sideUp 7 = .ok (.invokestatic 15, 3) := by decide +kernel
theorem dX9_sideUp_10 : decode cX9_sideUp 10 = .ok (.ireturn, 1) := by decide +kernel
set_option maxRecDepth 20000 in
theorem ggX9_turns_X8_began : GoodIn wsX9_turns wsX8_began := goodIn_r _ [4, 5, 6, 14, 15] (by decide +kernel) (by decide +kernel)
set_option maxRecDepth 20000 in
theorem gX9_turns_X8_began_n21 : GoodIn wsX9_turns (wsX8_began) := ggX9_turns_X8_began
set_option maxRecDepth 20000 in
theorem ggX9_turns_X7_turns : GoodIn wsX9_turns wsX7_turns := goodIn_r _ [12, 13, 1, 2, 3, 4, 5, 6, 16, 17, 18, 19, 20, 21, 22, 23, 24, 25, 26, 27, 28, 29, 30, 31, 32, 33, 34, 35, 36, 37, 38, 39, 40, 41, 42, 43, 44, 45, 46, 47, 48, 49, 50, 14, 15] (by decide +kernel) (by decide +kernel)
set_option maxRecDepth 20000 in
theorem gX9_turns_X7_turns_s27 : GoodIn wsX9_turns (va_wsSU RX9 27 yX7_turns wsX7_turns) := goodIn_app (goodIn_of _ (by decide +kernel)) ggX9_turns_X7_turns
theorem dX9_turns_0 : decode cX9_turns 0 = .ok (.aload_n 2, 1) := by decide +kernel
theorem dX9_turns_1 : decode cX9_turns 1 = .ok (.bipush 11, 2) := by decide +kernel
theorem dX9_turns_3 : decode cX9_turns 3 = .ok (.invokevirtual 21, 3) := by decide +kernel
theorem dX9_turns_6 : decode cX9_turns 6 = .ok (.aload_n 0, 1) := by decide +kernel
theorem dX9_turns_7 : decode cX9_turns 7 = .ok (.iload_n 1, 1) := by decide +kernel
theorem dX9_turns_8 : decode cX9_turns 8 = .ok (.iconst 3, 1) := by decide +kernel
theorem dX9_turns_9 : decode cX9_turns 9 = .ok (.imul, 1) := by decide +kernel
theorem dX9_turns_10 : decode cX9_turns 10 = .ok (.aload_n 2, 1) := by decide +kernel
theorem dX9_turns_11 : decode cX9_turns 11 = .ok (.invokespecial 27, 3) := by decide +kernel
theorem dX9_turns_14 : decode cX9_turns 14 = .ok (.ireturn, 1) := by decide +kernel
set_option maxRecDepth 20000 in
theorem ggX10_init_X9_init : GoodIn wsX10_init wsX9_init := goodIn_r _ [4, 5, 6, 7, 8, 9, 10, 11, 12, 13, 14, 15, 16, 17, 18, 19, 20, 21, 22, 23, 24, 25, 26, 27, 28, 29, 30, 31, 32, 33, 34, 35, 36, 37, 38, 39, 40, 41, 42, 43, 44, 45, 46, 47, 48, 49, 50, 51, 52, 53, 54, 55, 56, 57, 58, 59, 60, 61, 62, 63, 64, 65, 66, 67, 68, 69, 70, 71, 72, 73, 74, 75, 76, 77] (by decide +kernel) (by decide +kernel)
set_option maxRecDepth 20000 in
theorem gX10_init_X9_init : GoodIn wsX10_init (wsX9_init) := ggX10_init_X9_init
theorem dX10_init_0 : decode cX10_init 0 = .ok (.aload_n 0, 1) := by decide +kernel
theorem dX10_init_1 : decode cX10_init 1 = .ok (.iload_n 1, 1) := by decide +kernel
theorem dX10_init_2 : decode cX10_init 2 = .ok (.iload_n 2, 1) := by decide +kernel
theorem dX10_init_3 : decode cX10_init 3 = .ok (.iload_n 3, 1) := by decide +kernel
theorem dX10_init_4 : decode cX10_init 4 = .ok (.aload 4, 2) := by decide +kernel
theorem dX10_init_6 : decode cX10_init 6 = .ok (.invokespecial 3, 3) := by decide +kernel
theorem dX10_init_9 : decode cX10_init 9 = .ok (.return_, 1) := by decide +kernel
theorem dX10_sideUp_0 : decode cX10_sideUp 0 = .ok (.aload_n 1, 1) := by decide +kernel
theorem dX10_sideUp_1 : decode cX10_sideUp 1 = .ok (.getfield 9, 3) := by decide +kernel
theorem dX10_sideUp_4 : decode cX10_sideUp 4 = .ok (.bipush 50, 2) := by decide +kernel
theorem dX10_sideUp_6 : decode cX10_sideUp 6 = .ok (.aload_n 1, 1) := by decide +kernel
theorem dX10_sideUp_7 : decode cX10_sideUp 7 = .ok (.getfield 15, 3) := by decide +kernel
theorem dX10_sideUp_10 : decode cX10_sideUp 10 = .ok (.iadd, 1) := by decide +kernel
theorem dX10_sideUp_11 : decode cX10_sideUp 11 = .ok (.iload_n 2, 1) := by decide +kernel
theorem dX10_sideUp_12 : decode cX10_sideUp 12 = .ok (.invokestatic 18, 3) := by decide +kernel
theorem dX10_sideUp_15 : decode cX10_sideUp 15 = .ok (.ireturn, 1) := by decide +kernel
set_option maxRecDepth 20000 in
theorem ggX10_leans_X8_began : GoodIn wsX10_leans wsX8_began := goodIn_r _ [4, 5, 6, 27, 28] (by decide +kernel) (by decide +kernel)
set_option maxRecDepth 20000 in
theorem gX10_leans_X8_began_n24 : GoodIn wsX10_leans (wsX8_began) := ggX10_leans_X8_began
set_option maxRecDepth 20000 in
theorem ggX10_leans_X4_turns : GoodIn wsX10_leans wsX4_turns := goodIn_r _ [13, 14, 15, 1, 2, 3, 4, 5, 6, 29, 30, 31, 32, 33, 34, 35, 36, 37, 38, 39, 40, 41, 42, 43, 44, 45, 46, 47, 48, 49, 50, 51, 52, 53, 54, 55, 56, 57, 58, 59, 60, 61, 62, 63, 27, 28] (by decide +kernel) (by decide +kernel)
set_option maxRecDepth 20000 in
theorem gX10_leans_X4_turns_u34X4 : GoodIn wsX10_leans (va_wsO RX10 34 RX4 "HeadsByHair$Turning" ⟨"HeadsByHair$Wobbling", "turns", "(ILHeadsByHair$Trace;)I"⟩ yX4_turns wsX4_turns) := goodIn_app (goodIn_of _ (by decide +kernel)) ggX10_leans_X4_turns
set_option maxRecDepth 20000 in
theorem ggX10_leans_X9_turns : GoodIn wsX10_leans wsX9_turns := goodIn_r _ [16, 1, 2, 3, 4, 5, 6, 20, 21, 22, 23, 24, 25, 26, 27, 28, 29, 30, 31, 32, 33, 34, 35, 36, 37, 38, 39, 40, 41, 42, 43, 44, 45, 46, 47, 48, 49, 50, 51, 52, 53, 54, 55, 56, 57, 58, 59, 60, 61, 62, 63] (by decide +kernel) (by decide +kernel)
set_option maxRecDepth 20000 in
theorem gX10_leans_X9_turns_u34X10 : GoodIn wsX10_leans (va_wsU RX10 34 RX10 "HeadsByHair$Turning" ⟨"HeadsByHair$Wobbling", "turns", "(ILHeadsByHair$Trace;)I"⟩ yX9_turns wsX9_turns) := goodIn_app (goodIn_of _ (by decide +kernel)) ggX10_leans_X9_turns
theorem dX10_leans_0 : decode cX10_leans 0 = .ok (.aload_n 2, 1) := by decide +kernel
theorem dX10_leans_1 : decode cX10_leans 1 = .ok (.bipush 41, 2) := by decide +kernel
theorem dX10_leans_3 : decode cX10_leans 3 = .ok (.invokevirtual 24, 3) := by decide +kernel
theorem dX10_leans_6 : decode cX10_leans 6 = .ok (.aload_n 0, 1) := by decide +kernel
theorem dX10_leans_7 : decode cX10_leans 7 = .ok (.iload_n 1, 1) := by decide +kernel
theorem dX10_leans_8 : decode cX10_leans 8 = .ok (.iconst 1, 1) := by decide +kernel
theorem dX10_leans_9 : decode cX10_leans 9 = .ok (.isub, 1) := by decide +kernel
theorem dX10_leans_10 : decode cX10_leans 10 = .ok (.aload_n 2, 1) := by decide +kernel
theorem dX10_leans_11 : decode cX10_leans 11 = .ok (.invokespecial 30, 3) := by decide +kernel
theorem dX10_leans_14 : decode cX10_leans 14 = .ok (.aload_n 0, 1) := by decide +kernel
theorem dX10_leans_15 : decode cX10_leans 15 = .ok (.iconst 2, 1) := by decide +kernel
theorem dX10_leans_16 : decode cX10_leans 16 = .ok (.aload_n 2, 1) := by decide +kernel
theorem dX10_leans_17 : decode cX10_leans 17 = .ok (.invokevirtual 34, 3) := by decide +kernel
theorem dX10_leans_20 : decode cX10_leans 20 = .ok (.iadd, 1) := by decide +kernel
theorem dX10_leans_21 : decode cX10_leans 21 = .ok (.ireturn, 1) := by decide +kernel
set_option maxRecDepth 20000 in
theorem ggX11_init_X6_init : GoodIn wsX11_init wsX6_init := goodIn_r _ [22, 23, 2, 3, 24, 25, 26, 27, 28, 29, 30, 31, 32, 33, 34, 47, 48, 49, 50, 51, 52, 53, 54, 55, 56, 57, 58, 59, 60] (by decide +kernel) (by decide +kernel)
set_option maxRecDepth 20000 in
theorem gX11_init_X6_init_n11 : GoodIn wsX11_init (wsX6_init) := ggX11_init_X6_init
set_option maxRecDepth 20000 in
theorem ggX11_init_X3_init : GoodIn wsX11_init wsX3_init := goodIn_r _ [36, 37, 2, 3, 24, 38, 39, 67, 68, 69, 70, 71, 72, 73] (by decide +kernel) (by decide +kernel)
set_option maxRecDepth 20000 in
theorem gX11_init_X3_init_n23 : GoodIn wsX11_init (wsX3_init) := ggX11_init_X3_init
set_option maxRecDepth 20000 in
theorem ggX11_init_X2_init : GoodIn wsX11_init wsX2_init := goodIn_r _ [41, 42, 2, 3] (by decide +kernel) (by decide +kernel)
set_option maxRecDepth 20000 in
theorem gX11_init_X2_init_n30 : GoodIn wsX11_init (wsX2_init) := ggX11_init_X2_init
set_option maxRecDepth 20000 in
theorem ggX11_init_X8_init : GoodIn wsX11_init wsX8_init := goodIn_r _ [44, 45, 2, 3, 24, 46, 82, 83] (by decide +kernel) (by decide +kernel)
set_option maxRecDepth 20000 in
theorem gX11_init_X8_init_n37 : GoodIn wsX11_init (wsX8_init) := ggX11_init_X8_init
theorem dX11_init_0 : decode cX11_init 0 = .ok (.aload_n 0, 1) := by decide +kernel
theorem dX11_init_1 : decode cX11_init 1 = .ok (.invokespecial 3, 3) := by decide +kernel
theorem dX11_init_4 : decode cX11_init 4 = .ok (.aload_n 0, 1) := by decide +kernel
theorem dX11_init_5 : decode cX11_init 5 = .ok (.new 9, 3) := by decide +kernel
theorem dX11_init_8 : decode cX11_init 8 = .ok (.dup, 1) := by decide +kernel
theorem dX11_init_9 : decode cX11_init 9 = .ok (.invokespecial 11, 3) := by decide +kernel
theorem dX11_init_12 : decode cX11_init 12 = .ok (.putfield 12, 3) := by decide +kernel
theorem dX11_init_15 : decode cX11_init 15 = .ok (.aload_n 0, 1) := by decide +kernel
theorem dX11_init_16 : decode cX11_init 16 = .ok (.new 9, 3) := by decide +kernel
theorem dX11_init_19 : decode cX11_init 19 = .ok (.dup, 1) := by decide +kernel
theorem dX11_init_20 : decode cX11_init 20 = .ok (.invokespecial 11, 3) := by decide +kernel
theorem dX11_init_23 : decode cX11_init 23 = .ok (.putfield 18, 3) := by decide +kernel
theorem dX11_init_26 : decode cX11_init 26 = .ok (.aload_n 0, 1) := by decide +kernel
theorem dX11_init_27 : decode cX11_init 27 = .ok (.new 21, 3) := by decide +kernel
theorem dX11_init_30 : decode cX11_init 30 = .ok (.dup, 1) := by decide +kernel
theorem dX11_init_31 : decode cX11_init 31 = .ok (.invokespecial 23, 3) := by decide +kernel
theorem dX11_init_34 : decode cX11_init 34 = .ok (.putfield 24, 3) := by decide +kernel
theorem dX11_init_37 : decode cX11_init 37 = .ok (.aload_n 0, 1) := by decide +kernel
theorem dX11_init_38 : decode cX11_init 38 = .ok (.new 28, 3) := by decide +kernel
theorem dX11_init_41 : decode cX11_init 41 = .ok (.dup, 1) := by decide +kernel
theorem dX11_init_42 : decode cX11_init 42 = .ok (.invokespecial 30, 3) := by decide +kernel
theorem dX11_init_45 : decode cX11_init 45 = .ok (.putfield 31, 3) := by decide +kernel
theorem dX11_init_48 : decode cX11_init 48 = .ok (.aload_n 0, 1) := by decide +kernel
theorem dX11_init_49 : decode cX11_init 49 = .ok (.new 35, 3) := by decide +kernel
theorem dX11_init_52 : decode cX11_init 52 = .ok (.dup, 1) := by decide +kernel
theorem dX11_init_53 : decode cX11_init 53 = .ok (.invokespecial 37, 3) := by decide +kernel
theorem dX11_init_56 : decode cX11_init 56 = .ok (.putfield 38, 3) := by decide +kernel
theorem dX11_init_59 : decode cX11_init 59 = .ok (.return_, 1) := by decide +kernel
set_option maxRecDepth 20000 in
theorem ggX11_coin_X11_isWithin : GoodIn wsX11_coin wsX11_isWithin := goodIn_r _ [5] (by decide +kernel) (by decide +kernel)
set_option maxRecDepth 20000 in
theorem gX11_coin_X11_isWithin : GoodIn wsX11_coin (va_wsS RX11 42 yX11_isWithin wsX11_isWithin) := goodIn_app (goodIn_of _ (by decide +kernel)) ggX11_coin_X11_isWithin
theorem dX11_coin_0 : decode cX11_coin 0 = .ok (.iload_n 1, 1) := by decide +kernel
theorem dX11_coin_1 : decode cX11_coin 1 = .ok (.iconst 0, 1) := by decide +kernel
theorem dX11_coin_2 : decode cX11_coin 2 = .ok (.bipush 9, 2) := by decide +kernel
theorem dX11_coin_4 : decode cX11_coin 4 = .ok (.invokestatic 42, 3) := by decide +kernel
theorem dX11_coin_7 : decode cX11_coin 7 = .ok (.ifCond .eq 13, 3) := by decide +kernel
theorem dX11_coin_10 : decode cX11_coin 10 = .ok (.iload_n 2, 1) := by decide +kernel
theorem dX11_coin_11 : decode cX11_coin 11 = .ok (.iconst 0, 1) := by decide +kernel
theorem dX11_coin_12 : decode cX11_coin 12 = .ok (.bipush 9, 2) := by decide +kernel
theorem dX11_coin_14 : decode cX11_coin 14 = .ok (.invokestatic 42, 3) := by decide +kernel
theorem dX11_coin_17 : decode cX11_coin 17 = .ok (.ifCond .ne 6, 3) := by decide +kernel
theorem dX11_coin_20 : decode cX11_coin 20 = .ok (.bipush (-2), 2) := by decide +kernel
theorem dX11_coin_22 : decode cX11_coin 22 = .ok (.ireturn, 1) := by decide +kernel
theorem dX11_coin_23 : decode cX11_coin 23 = .ok (.aload_n 0, 1) := by decide +kernel
theorem dX11_coin_24 : decode cX11_coin 24 = .ok (.getfield 12, 3) := by decide +kernel
theorem dX11_coin_27 : decode cX11_coin 27 = .ok (.getfield 46, 3) := by decide +kernel
theorem dX11_coin_30 : decode cX11_coin 30 = .ok (.bipush 6, 2) := by decide +kernel
theorem dX11_coin_32 : decode cX11_coin 32 = .ok (.if_icmp .lt 6, 3) := by decide +kernel
theorem dX11_coin_35 : decode cX11_coin 35 = .ok (.bipush (-4), 2) := by decide +kernel
theorem dX11_coin_37 : decode cX11_coin 37 = .ok (.ireturn, 1) := by decide +kernel
theorem dX11_coin_38 : decode cX11_coin 38 = .ok (.aload_n 0, 1) := by decide +kernel
theorem dX11_coin_39 : decode cX11_coin 39 = .ok (.getfield 12, 3) := by decide +kernel
theorem dX11_coin_42 : decode cX11_coin 42 = .ok (.getfield 50, 3) := by decide +kernel
theorem dX11_coin_45 : decode cX11_coin 45 = .ok (.aload_n 0, 1) := by decide +kernel
theorem dX11_coin_46 : decode cX11_coin 46 = .ok (.getfield 12, 3) := by decide +kernel
theorem dX11_coin_49 : decode cX11_coin 49 = .ok (.getfield 46, 3) := by decide +kernel
theorem dX11_coin_52 : decode cX11_coin 52 = .ok (.iload_n 1, 1) := by decide +kernel
theorem dX11_coin_53 : decode cX11_coin 53 = .ok (.iastore, 1) := by decide +kernel
theorem dX11_coin_54 : decode cX11_coin 54 = .ok (.aload_n 0, 1) := by decide +kernel
theorem dX11_coin_55 : decode cX11_coin 55 = .ok (.getfield 12, 3) := by decide +kernel
theorem dX11_coin_58 : decode cX11_coin 58 = .ok (.getfield 54, 3) := by decide +kernel
theorem dX11_coin_61 : decode cX11_coin 61 = .ok (.aload_n 0, 1) := by decide +kernel
theorem dX11_coin_62 : decode cX11_coin 62 = .ok (.getfield 12, 3) := by decide +kernel
theorem dX11_coin_65 : decode cX11_coin 65 = .ok (.getfield 46, 3) := by decide +kernel
theorem dX11_coin_68 : decode cX11_coin 68 = .ok (.iload_n 2, 1) := by decide +kernel
theorem dX11_coin_69 : decode cX11_coin 69 = .ok (.iastore, 1) := by decide +kernel
theorem dX11_coin_70 : decode cX11_coin 70 = .ok (.aload_n 0, 1) := by decide +kernel
theorem dX11_coin_71 : decode cX11_coin 71 = .ok (.getfield 12, 3) := by decide +kernel
theorem dX11_coin_74 : decode cX11_coin 74 = .ok (.dup, 1) := by decide +kernel
theorem dX11_coin_75 : decode cX11_coin 75 = .ok (.getfield 46, 3) := by decide +kernel
theorem dX11_coin_78 : decode cX11_coin 78 = .ok (.dup_x1, 1) := by decide +kernel
theorem dX11_coin_79 : decode cX11_coin 79 = .ok (.iconst 1, 1) := by decide +kernel
theorem dX11_coin_80 : decode cX11_coin 80 = .ok (.iadd, 1) := by decide +kernel
theorem dX11_coin_81 : decode cX11_coin 81 = .ok (.putfield 46, 3) := by decide +kernel
theorem dX11_coin_84 : decode cX11_coin 84 = .ok (.ireturn, 1) := by decide +kernel
set_option maxRecDepth 20000 in
theorem ggX11_hand_X11_isWithin : GoodIn wsX11_hand wsX11_isWithin := goodIn_r _ [5] (by decide +kernel) (by decide +kernel)
set_option maxRecDepth 20000 in
theorem gX11_hand_X11_isWithin : GoodIn wsX11_hand (va_wsS RX11 42 yX11_isWithin wsX11_isWithin) := goodIn_app (goodIn_of _ (by decide +kernel)) ggX11_hand_X11_isWithin
theorem dX11_hand_0 : decode cX11_hand 0 = .ok (.iload_n 1, 1) := by decide +kernel
theorem dX11_hand_1 : decode cX11_hand 1 = .ok (.iconst 1, 1) := by decide +kernel
theorem dX11_hand_2 : decode cX11_hand 2 = .ok (.bipush 30, 2) := by decide +kernel
theorem dX11_hand_4 : decode cX11_hand 4 = .ok (.invokestatic 42, 3) := by decide +kernel
theorem dX11_hand_7 : decode cX11_hand 7 = .ok (.ifCond .eq 13, 3) := by decide +kernel
theorem dX11_hand_10 : decode cX11_hand 10 = .ok (.iload_n 2, 1) := by decide +kernel
theorem dX11_hand_11 : decode cX11_hand 11 = .ok (.iconst 0, 1) := by decide +kernel
theorem dX11_hand_12 : decode cX11_hand 12 = .ok (.bipush 9, 2) := by decide +kernel
theorem dX11_hand_14 : decode cX11_hand 14 = .ok (.invokestatic 42, 3) := by decide +kernel
theorem dX11_hand_17 : decode cX11_hand 17 = .ok (.ifCond .ne 6, 3) := by decide +kernel
theorem dX11_hand_20 : decode cX11_hand 20 = .ok (.bipush (-2), 2) := by decide +kernel
theorem dX11_hand_22 : decode cX11_hand 22 = .ok (.ireturn, 1) := by decide +kernel
theorem dX11_hand_23 : decode cX11_hand 23 = .ok (.aload_n 0, 1) := by decide +kernel
theorem dX11_hand_24 : decode cX11_hand 24 = .ok (.getfield 12, 3) := by decide +kernel
theorem dX11_hand_27 : decode cX11_hand 27 = .ok (.getfield 57, 3) := by decide +kernel
theorem dX11_hand_30 : decode cX11_hand 30 = .ok (.bipush 6, 2) := by decide +kernel
theorem dX11_hand_32 : decode cX11_hand 32 = .ok (.if_icmp .lt 6, 3) := by decide +kernel
theorem dX11_hand_35 : decode cX11_hand 35 = .ok (.bipush (-4), 2) := by decide +kernel
theorem dX11_hand_37 : decode cX11_hand 37 = .ok (.ireturn, 1) := by decide +kernel
theorem dX11_hand_38 : decode cX11_hand 38 = .ok (.aload_n 0, 1) := by decide +kernel
theorem dX11_hand_39 : decode cX11_hand 39 = .ok (.getfield 12, 3) := by decide +kernel
theorem dX11_hand_42 : decode cX11_hand 42 = .ok (.getfield 60, 3) := by decide +kernel
theorem dX11_hand_45 : decode cX11_hand 45 = .ok (.aload_n 0, 1) := by decide +kernel
theorem dX11_hand_46 : decode cX11_hand 46 = .ok (.getfield 12, 3) := by decide +kernel
theorem dX11_hand_49 : decode cX11_hand 49 = .ok (.getfield 57, 3) := by decide +kernel
theorem dX11_hand_52 : decode cX11_hand 52 = .ok (.iload_n 1, 1) := by decide +kernel
theorem dX11_hand_53 : decode cX11_hand 53 = .ok (.iastore, 1) := by decide +kernel
theorem dX11_hand_54 : decode cX11_hand 54 = .ok (.aload_n 0, 1) := by decide +kernel
theorem dX11_hand_55 : decode cX11_hand 55 = .ok (.getfield 12, 3) := by decide +kernel
theorem dX11_hand_58 : decode cX11_hand 58 = .ok (.getfield 63, 3) := by decide +kernel
theorem dX11_hand_61 : decode cX11_hand 61 = .ok (.aload_n 0, 1) := by decide +kernel
theorem dX11_hand_62 : decode cX11_hand 62 = .ok (.getfield 12, 3) := by decide +kernel
theorem dX11_hand_65 : decode cX11_hand 65 = .ok (.getfield 57, 3) := by decide +kernel
theorem dX11_hand_68 : decode cX11_hand 68 = .ok (.iload_n 2, 1) := by decide +kernel
theorem dX11_hand_69 : decode cX11_hand 69 = .ok (.iastore, 1) := by decide +kernel
theorem dX11_hand_70 : decode cX11_hand 70 = .ok (.aload_n 0, 1) := by decide +kernel
theorem dX11_hand_71 : decode cX11_hand 71 = .ok (.getfield 12, 3) := by decide +kernel
theorem dX11_hand_74 : decode cX11_hand 74 = .ok (.dup, 1) := by decide +kernel
theorem dX11_hand_75 : decode cX11_hand 75 = .ok (.getfield 57, 3) := by decide +kernel
theorem dX11_hand_78 : decode cX11_hand 78 = .ok (.dup_x1, 1) := by decide +kernel
theorem dX11_hand_79 : decode cX11_hand 79 = .ok (.iconst 1, 1) := by decide +kernel
theorem dX11_hand_80 : decode cX11_hand 80 = .ok (.iadd, 1) := by decide +kernel
theorem dX11_hand_81 : decode cX11_hand 81 = .ok (.putfield 57, 3) := by decide +kernel
theorem dX11_hand_84 : decode cX11_hand 84 = .ok (.ireturn, 1) := by decide +kernel
set_option maxRecDepth 20000 in
theorem ggX11_of_X11_isHand : GoodIn wsX11_of wsX11_isHand := goodIn_r _ [6, 1, 7, 8, 5, 9, 28, 29, 30, 31, 32, 33, 34, 35, 36, 37, 38, 39, 40, 41, 42, 43, 44, 45, 46, 47] (by decide +kernel) (by decide +kernel)
set_option maxRecDepth 20000 in
theorem gX11_of_X11_isHand : GoodIn wsX11_of (wsV RX11 66 RX11 yX11_isHand wsX11_isHand) := goodIn_app (goodIn_of _ (by decide +kernel)) ggX11_of_X11_isHand
set_option maxRecDepth 20000 in
theorem ggX11_of_X11_leaning : GoodIn wsX11_of wsX11_leaning := goodIn_r _ [13, 1, 14, 15, 16, 17, 18, 19, 20, 21, 22, 23, 24, 25, 26, 27, 28, 29, 30, 31, 32, 33, 34, 35, 36, 37, 38, 39, 40, 41, 42, 43, 44, 45, 46, 47] (by decide +kernel) (by decide +kernel)
set_option maxRecDepth 20000 in
theorem gX11_of_X11_leaning : GoodIn wsX11_of (wsV RX11 70 RX11 yX11_leaning wsX11_leaning) := goodIn_app (goodIn_of _ (by decide +kernel)) ggX11_of_X11_leaning
set_option maxRecDepth 20000 in
theorem ggX11_of_X6_allThrown : GoodIn wsX11_of wsX6_allThrown := goodIn_r _ [17, 18, 19, 20, 21, 15, 22, 23, 34, 35, 36, 37, 38, 39, 40, 41, 42, 43, 44, 45, 46, 47] (by decide +kernel) (by decide +kernel)
set_option maxRecDepth 20000 in
theorem gX11_of_X6_allThrown_n74 : GoodIn wsX11_of (wsX6_allThrown) := ggX11_of_X6_allThrown
set_option maxRecDepth 20000 in
theorem ggX11_of_X6_allAlike : GoodIn wsX11_of wsX6_allAlike := goodIn_r _ [26, 27, 19, 20, 21, 15, 22, 23, 34, 35, 36, 37, 38, 39, 40, 41, 42, 43, 44, 45, 46, 47] (by decide +kernel) (by decide +kernel)
set_option maxRecDepth 20000 in
theorem gX11_of_X6_allAlike_n77 : GoodIn wsX11_of (wsX6_allAlike) := ggX11_of_X6_allAlike
theorem dX11_of_0 : decode cX11_of 0 = .ok (.aload_n 0, 1) := by decide +kernel
theorem dX11_of_1 : decode cX11_of 1 = .ok (.iload_n 1, 1) := by decide +kernel
theorem dX11_of_2 : decode cX11_of 2 = .ok (.invokevirtual 66, 3) := by decide +kernel
theorem dX11_of_5 : decode cX11_of 5 = .ok (.ifCond .ne 5, 3) := by decide +kernel
theorem dX11_of_8 : decode cX11_of 8 = .ok (.iconst (-1), 1) := by decide +kernel
theorem dX11_of_9 : decode cX11_of 9 = .ok (.ireturn, 1) := by decide +kernel
theorem dX11_of_10 : decode cX11_of 10 = .ok (.iload_n 2, 1) := by decide +kernel
theorem dX11_of_11 : decode cX11_of 11 = .ok (.tableswitch 77 0 4 #[33, 43, 53, 59, 68], 33) := by decide +kernel
theorem dX11_of_44 : decode cX11_of 44 = .ok (.aload_n 0, 1) := by decide +kernel
theorem dX11_of_45 : decode cX11_of 45 = .ok (.getfield 12, 3) := by decide +kernel
theorem dX11_of_48 : decode cX11_of 48 = .ok (.getfield 60, 3) := by decide +kernel
theorem dX11_of_51 : decode cX11_of 51 = .ok (.iload_n 1, 1) := by decide +kernel
theorem dX11_of_52 : decode cX11_of 52 = .ok (.iaload, 1) := by decide +kernel
theorem dX11_of_53 : decode cX11_of 53 = .ok (.ireturn, 1) := by decide +kernel
theorem dX11_of_54 : decode cX11_of 54 = .ok (.aload_n 0, 1) := by decide +kernel
theorem dX11_of_55 : decode cX11_of 55 = .ok (.getfield 12, 3) := by decide +kernel
theorem dX11_of_58 : decode cX11_of 58 = .ok (.getfield 63, 3) := by decide +kernel
theorem dX11_of_61 : decode cX11_of 61 = .ok (.iload_n 1, 1) := by decide +kernel
theorem dX11_of_62 : decode cX11_of 62 = .ok (.iaload, 1) := by decide +kernel
theorem dX11_of_63 : decode cX11_of 63 = .ok (.ireturn, 1) := by decide +kernel
theorem dX11_of_64 : decode cX11_of 64 = .ok (.aload_n 0, 1) := by decide +kernel
theorem dX11_of_65 : decode cX11_of 65 = .ok (.iload_n 1, 1) := by decide +kernel
theorem dX11_of_66 : decode cX11_of 66 = .ok (.invokevirtual 70, 3) := by decide +kernel
theorem dX11_of_69 : decode cX11_of 69 = .ok (.ireturn, 1) := by decide +kernel
theorem dX11_of_70 : decode cX11_of 70 = .ok (.aload_n 0, 1) := by decide +kernel
theorem dX11_of_71 : decode cX11_of 71 = .ok (.getfield 12, 3) := by decide +kernel
theorem dX11_of_74 : decode cX11_of 74 = .ok (.iload_n 1, 1) := by decide +kernel
theorem dX11_of_75 : decode cX11_of 75 = .ok (.invokevirtual 74, 3) := by decide +kernel
theorem dX11_of_78 : decode cX11_of 78 = .ok (.ireturn, 1) := by decide +kernel
theorem dX11_of_79 : decode cX11_of 79 = .ok (.aload_n 0, 1) := by decide +kernel
theorem dX11_of_80 : decode cX11_of 80 = .ok (.getfield 12, 3) := by decide +kernel
theorem dX11_of_83 : decode cX11_of 83 = .ok (.iload_n 1, 1) := by decide +kernel
theorem dX11_of_84 : decode cX11_of 84 = .ok (.invokevirtual 77, 3) := by decide +kernel
theorem dX11_of_87 : decode cX11_of 87 = .ok (.ireturn, 1) := by decide +kernel
theorem dX11_of_88 : decode cX11_of 88 = .ok (.iconst (-1), 1) := by decide +kernel
theorem dX11_of_89 : decode cX11_of 89 = .ok (.ireturn, 1) := by decide +kernel
set_option maxRecDepth 20000 in
theorem ggX11_counts_X11_isHand : GoodIn wsX11_counts wsX11_isHand := goodIn_r _ [6, 1, 7, 8, 5, 9, 14, 15, 16, 17, 18, 19, 20, 21, 22, 23, 24, 25, 26, 27, 28, 29, 30, 31, 32, 33] (by decide +kernel) (by decide +kernel)
set_option maxRecDepth 20000 in
theorem gX11_counts_X11_isHand : GoodIn wsX11_counts (wsV RX11 66 RX11 yX11_isHand wsX11_isHand) := goodIn_app (goodIn_of _ (by decide +kernel)) ggX11_counts_X11_isHand
set_option maxRecDepth 20000 in
theorem ggX11_counts_X11_isCoin : GoodIn wsX11_counts wsX11_isCoin := goodIn_r _ [13, 1, 7, 8, 5, 9, 14, 15, 16, 17, 18, 19, 20, 21, 22, 23, 24, 25, 26, 27, 28, 29, 30, 31, 32, 33] (by decide +kernel) (by decide +kernel)
set_option maxRecDepth 20000 in
theorem gX11_counts_X11_isCoin : GoodIn wsX11_counts (wsV RX11 80 RX11 yX11_isCoin wsX11_isCoin) := goodIn_app (goodIn_of _ (by decide +kernel)) ggX11_counts_X11_isCoin
set_option maxRecDepth 20000 in
theorem ggX11_counts_X11_isWithin : GoodIn wsX11_counts wsX11_isWithin := goodIn_r _ [9] (by decide +kernel) (by decide +kernel)
set_option maxRecDepth 20000 in
theorem gX11_counts_X11_isWithin : GoodIn wsX11_counts (va_wsS RX11 42 yX11_isWithin wsX11_isWithin) := goodIn_app (goodIn_of _ (by decide +kernel)) ggX11_counts_X11_isWithin
theorem dX11_counts_0 : decode cX11_counts 0 = .ok (.aload_n 0, 1) := by decide +kernel
theorem dX11_counts_1 : decode cX11_counts 1 = .ok (.iload_n 1, 1) := by decide +kernel
theorem dX11_counts_2 : decode cX11_counts 2 = .ok (.invokevirtual 66, 3) := by decide +kernel
theorem dX11_counts_5 : decode cX11_counts 5 = .ok (.ifCond .eq 11, 3) := by decide +kernel
theorem dX11_counts_8 : decode cX11_counts 8 = .ok (.aload_n 0, 1) := by decide +kernel
theorem dX11_counts_9 : decode cX11_counts 9 = .ok (.iload_n 2, 1) := by decide +kernel
theorem dX11_counts_10 : decode cX11_counts 10 = .ok (.invokevirtual 80, 3) := by decide +kernel
theorem dX11_counts_13 : decode cX11_counts 13 = .ok (.ifCond .ne 5, 3) := by decide +kernel
theorem dX11_counts_16 : decode cX11_counts 16 = .ok (.iconst (-1), 1) := by decide +kernel
theorem dX11_counts_17 : decode cX11_counts 17 = .ok (.ireturn, 1) := by decide +kernel
theorem dX11_counts_18 : decode cX11_counts 18 = .ok (.iload_n 3, 1) := by decide +kernel
theorem dX11_counts_19 : decode cX11_counts 19 = .ok (.iconst 0, 1) := by decide +kernel
theorem dX11_counts_20 : decode cX11_counts 20 = .ok (.sipush 999, 3) := by decide +kernel
theorem dX11_counts_23 : decode cX11_counts 23 = .ok (.invokestatic 42, 3) := by decide +kernel
theorem dX11_counts_26 : decode cX11_counts 26 = .ok (.ifCond .eq 13, 3) := by decide +kernel
theorem dX11_counts_29 : decode cX11_counts 29 = .ok (.iload 4, 2) := by decide +kernel
theorem dX11_counts_31 : decode cX11_counts 31 = .ok (.iconst 0, 1) := by decide +kernel
theorem dX11_counts_32 : decode cX11_counts 32 = .ok (.iload_n 3, 1) := by decide +kernel
theorem dX11_counts_33 : decode cX11_counts 33 = .ok (.invokestatic 42, 3) := by decide +kernel
theorem dX11_counts_36 : decode cX11_counts 36 = .ok (.ifCond .ne 6, 3) := by decide +kernel
theorem dX11_counts_39 : decode cX11_counts 39 = .ok (.bipush (-2), 2) := by decide +kernel
theorem dX11_counts_41 : decode cX11_counts 41 = .ok (.ireturn, 1) := by decide +kernel
theorem dX11_counts_42 : decode cX11_counts 42 = .ok (.iload_n 1, 1) := by decide +kernel
theorem dX11_counts_43 : decode cX11_counts 43 = .ok (.bipush 6, 2) := by decide +kernel
theorem dX11_counts_45 : decode cX11_counts 45 = .ok (.imul, 1) := by decide +kernel
theorem dX11_counts_46 : decode cX11_counts 46 = .ok (.iload_n 2, 1) := by decide +kernel
theorem dX11_counts_47 : decode cX11_counts 47 = .ok (.iadd, 1) := by decide +kernel
theorem dX11_counts_48 : decode cX11_counts 48 = .ok (.istore 5, 2) := by decide +kernel
theorem dX11_counts_50 : decode cX11_counts 50 = .ok (.aload_n 0, 1) := by decide +kernel
theorem dX11_counts_51 : decode cX11_counts 51 = .ok (.getfield 12, 3) := by decide +kernel
theorem dX11_counts_54 : decode cX11_counts 54 = .ok (.getfield 83, 3) := by decide +kernel
theorem dX11_counts_57 : decode cX11_counts 57 = .ok (.iload 5, 2) := by decide +kernel
theorem dX11_counts_59 : decode cX11_counts 59 = .ok (.iaload, 1) := by decide +kernel
theorem dX11_counts_60 : decode cX11_counts 60 = .ok (.istore 6, 2) := by decide +kernel
theorem dX11_counts_62 : decode cX11_counts 62 = .ok (.aload_n 0, 1) := by decide +kernel
theorem dX11_counts_63 : decode cX11_counts 63 = .ok (.getfield 12, 3) := by decide +kernel
theorem dX11_counts_66 : decode cX11_counts 66 = .ok (.getfield 83, 3) := by decide +kernel
theorem dX11_counts_69 : decode cX11_counts 69 = .ok (.iload 5, 2) := by decide +kernel
theorem dX11_counts_71 : decode cX11_counts 71 = .ok (.iload_n 3, 1) := by decide +kernel
theorem dX11_counts_72 : decode cX11_counts 72 = .ok (.iastore, 1) := by decide +kernel
theorem dX11_counts_73 : decode cX11_counts 73 = .ok (.aload_n 0, 1) := by decide +kernel
theorem dX11_counts_74 : decode cX11_counts 74 = .ok (.getfield 12, 3) := by decide +kernel
theorem dX11_counts_77 : decode cX11_counts 77 = .ok (.getfield 86, 3) := by decide +kernel
theorem dX11_counts_80 : decode cX11_counts 80 = .ok (.iload 5, 2) := by decide +kernel
theorem dX11_counts_82 : decode cX11_counts 82 = .ok (.iload 4, 2) := by decide +kernel
theorem dX11_counts_84 : decode cX11_counts 84 = .ok (.iastore, 1) := by decide +kernel
theorem dX11_counts_85 : decode cX11_counts 85 = .ok (.iload 6, 2) := by decide +kernel
theorem dX11_counts_87 : decode cX11_counts 87 = .ok (.ireturn, 1) := by decide +kernel
set_option maxRecDepth 20000 in
theorem ggX11_feed_X11_isWithin : GoodIn wsX11_feed wsX11_isWithin := goodIn_r _ [5] (by decide +kernel) (by decide +kernel)
set_option maxRecDepth 20000 in
theorem gX11_feed_X11_isWithin : GoodIn wsX11_feed (va_wsS RX11 42 yX11_isWithin wsX11_isWithin) := goodIn_app (goodIn_of _ (by decide +kernel)) ggX11_feed_X11_isWithin
theorem dX11_feed_0 : decode cX11_feed 0 = .ok (.iload_n 3, 1) := by decide +kernel
theorem dX11_feed_1 : decode cX11_feed 1 = .ok (.iconst 1, 1) := by decide +kernel
theorem dX11_feed_2 : decode cX11_feed 2 = .ok (.bipush 8, 2) := by decide +kernel
theorem dX11_feed_4 : decode cX11_feed 4 = .ok (.invokestatic 42, 3) := by decide +kernel
theorem dX11_feed_7 : decode cX11_feed 7 = .ok (.ifCond .ne 6, 3) := by decide +kernel
theorem dX11_feed_10 : decode cX11_feed 10 = .ok (.bipush (-2), 2) := by decide +kernel
theorem dX11_feed_12 : decode cX11_feed 12 = .ok (.ireturn, 1) := by decide +kernel
theorem dX11_feed_13 : decode cX11_feed 13 = .ok (.aload_n 0, 1) := by decide +kernel
theorem dX11_feed_14 : decode cX11_feed 14 = .ok (.getfield 12, 3) := by decide +kernel
theorem dX11_feed_17 : decode cX11_feed 17 = .ok (.getfield 89, 3) := by decide +kernel
theorem dX11_feed_20 : decode cX11_feed 20 = .ok (.iload_n 3, 1) := by decide +kernel
theorem dX11_feed_21 : decode cX11_feed 21 = .ok (.iadd, 1) := by decide +kernel
theorem dX11_feed_22 : decode cX11_feed 22 = .ok (.bipush 120, 2) := by decide +kernel
theorem dX11_feed_24 : decode cX11_feed 24 = .ok (.if_icmp .le 6, 3) := by decide +kernel
theorem dX11_feed_27 : decode cX11_feed 27 = .ok (.bipush (-4), 2) := by decide +kernel
theorem dX11_feed_29 : decode cX11_feed 29 = .ok (.ireturn, 1) := by decide +kernel
theorem dX11_feed_30 : decode cX11_feed 30 = .ok (.iload_n 3, 1) := by decide +kernel
theorem dX11_feed_31 : decode cX11_feed 31 = .ok (.iconst 1, 1) := by decide +kernel
theorem dX11_feed_32 : decode cX11_feed 32 = .ok (.isub, 1) := by decide +kernel
theorem dX11_feed_33 : decode cX11_feed 33 = .ok (.istore 4, 2) := by decide +kernel
theorem dX11_feed_35 : decode cX11_feed 35 = .ok (.iload 4, 2) := by decide +kernel
theorem dX11_feed_37 : decode cX11_feed 37 = .ok (.ifCond .lt 49, 3) := by decide +kernel
theorem dX11_feed_40 : decode cX11_feed 40 = .ok (.aload_n 0, 1) := by decide +kernel
theorem dX11_feed_41 : decode cX11_feed 41 = .ok (.getfield 12, 3) := by decide +kernel
theorem dX11_feed_44 : decode cX11_feed 44 = .ok (.getfield 92, 3) := by decide +kernel
theorem dX11_feed_47 : decode cX11_feed 47 = .ok (.aload_n 0, 1) := by decide +kernel
theorem dX11_feed_48 : decode cX11_feed 48 = .ok (.getfield 12, 3) := by decide +kernel
theorem dX11_feed_51 : decode cX11_feed 51 = .ok (.getfield 89, 3) := by decide +kernel
theorem dX11_feed_54 : decode cX11_feed 54 = .ok (.lload_n 1, 1) := by decide +kernel
theorem dX11_feed_55 : decode cX11_feed 55 = .ok (.bipush 8, 2) := by decide +kernel
theorem dX11_feed_57 : decode cX11_feed 57 = .ok (.iload 4, 2) := by decide +kernel
theorem dX11_feed_59 : decode cX11_feed 59 = .ok (.imul, 1) := by decide +kernel
theorem dX11_feed_60 : decode cX11_feed 60 = .ok (.lushr, 1) := by decide +kernel
theorem dX11_feed_61 : decode cX11_feed 61 = .ok (.l2i, 1) := by decide +kernel
theorem dX11_feed_62 : decode cX11_feed 62 = .ok (.sipush 255, 3) := by decide +kernel
theorem dX11_feed_65 : decode cX11_feed 65 = .ok (.iand, 1) := by decide +kernel
theorem dX11_feed_66 : decode cX11_feed 66 = .ok (.iastore, 1) := by decide +kernel
theorem dX11_feed_67 : decode cX11_feed 67 = .ok (.aload_n 0, 1) := by decide +kernel
theorem dX11_feed_68 : decode cX11_feed 68 = .ok (.getfield 12, 3) := by decide +kernel
theorem dX11_feed_71 : decode cX11_feed 71 = .ok (.dup, 1) := by decide +kernel
theorem dX11_feed_72 : decode cX11_feed 72 = .ok (.getfield 89, 3) := by decide +kernel
theorem dX11_feed_75 : decode cX11_feed 75 = .ok (.iconst 1, 1) := by decide +kernel
theorem dX11_feed_76 : decode cX11_feed 76 = .ok (.iadd, 1) := by decide +kernel
theorem dX11_feed_77 : decode cX11_feed 77 = .ok (.putfield 89, 3) := by decide +kernel
theorem dX11_feed_80 : decode cX11_feed 80 = .ok (.iinc 4 (-1), 3) := by decide +kernel
theorem dX11_feed_83 : decode cX11_feed 83 = .ok (.goto (-48), 3) := by decide +kernel
theorem dX11_feed_86 : decode cX11_feed 86 = .ok (.aload_n 0, 1) := by decide +kernel
theorem dX11_feed_87 : decode cX11_feed 87 = .ok (.getfield 12, 3) := by decide +kernel
theorem dX11_feed_90 : decode cX11_feed 90 = .ok (.getfield 89, 3) := by decide +kernel
theorem dX11_feed_93 : decode cX11_feed 93 = .ok (.ireturn, 1) := by decide +kernel
set_option maxRecDepth 20000 in
theorem ggX11_law_X11_isWithin : GoodIn wsX11_law wsX11_isWithin := goodIn_r _ [6] (by decide +kernel) (by decide +kernel)
set_option maxRecDepth 20000 in
theorem gX11_law_X11_isWithin : GoodIn wsX11_law (va_wsS RX11 42 yX11_isWithin wsX11_isWithin) := goodIn_app (goodIn_of _ (by decide +kernel)) ggX11_law_X11_isWithin
set_option maxRecDepth 20000 in
theorem ggX11_law_X3_reads : GoodIn wsX11_law wsX3_reads := goodIn_r _ [10, 11, 12, 13, 14, 15, 16, 17, 18, 19, 20, 21, 22, 8, 23, 24, 25, 26, 27, 28, 29, 30, 31, 32, 33, 34, 35, 36, 37, 38, 39, 40, 41, 42, 43, 44, 45, 46, 47, 48, 49, 50, 51, 52, 53, 54, 55, 56, 57, 58, 59, 60, 61, 62, 63, 64, 65, 66, 67, 68, 69, 70, 71, 72, 73, 74, 75, 76, 77, 78, 79, 80, 81, 82, 83, 84, 85, 86, 87, 88, 89, 90, 91, 92, 93, 94, 95, 96, 97, 98, 99, 100, 101, 102, 103, 104, 105, 106, 107, 108, 109, 110, 111, 112, 113, 114, 115, 116, 117, 118, 119, 120, 121, 122, 123, 124, 125, 126, 127, 128, 129, 130, 131, 132, 133, 134, 135, 136, 137, 138, 139, 140, 141, 142, 143, 144, 145, 146, 147, 148, 149, 150, 151, 152, 153, 154, 155, 156, 157, 158, 159, 160, 161, 162, 163, 164, 4, 5, 6, 261, 262, 263, 264, 265, 266, 267] (by decide +kernel) (by decide +kernel)
set_option maxRecDepth 20000 in
theorem gX11_law_X3_reads_n98 : GoodIn wsX11_law (wsX3_reads) := ggX11_law_X3_reads
set_option maxRecDepth 20000 in
theorem ggX11_law_X11_newLaw : GoodIn wsX11_law wsX11_newLaw := goodIn_r _ [168, 169, 170, 171, 2, 172, 173, 174, 175, 176, 177, 178, 179, 180, 181, 182, 183, 184, 185, 186, 187, 188, 189, 190, 191, 192, 193, 194, 195, 196, 197, 198, 199, 200, 201, 202, 203, 204, 205, 206, 207, 208, 209, 210, 211, 212, 213, 214, 215, 13, 14, 15, 216, 217, 218, 219, 220, 221, 222, 223, 224, 225, 226, 227, 228, 229, 230, 231, 232, 233, 234, 235, 236, 237, 238, 239, 240, 268, 269, 270, 271, 272, 241, 242, 243, 244, 245, 246, 273, 274, 275, 276, 277, 278, 279, 280, 281, 282, 283, 284, 285, 286, 287, 288, 289, 290, 291, 292, 293, 294, 295, 296, 297, 298, 299, 300, 301, 302, 261, 262, 263, 264, 265, 266, 267] (by decide +kernel) (by decide +kernel)
set_option maxRecDepth 20000 in
theorem gX11_law_X11_newLaw : GoodIn wsX11_law (wsV RX11 109 RX11 yX11_newLaw wsX11_newLaw) := goodIn_app (goodIn_of _ (by decide +kernel)) ggX11_law_X11_newLaw
theorem dX11_law_0 : decode cX11_law 0 = .ok (.iload_n 1, 1) := by decide +kernel
theorem dX11_law_1 : decode cX11_law 1 = .ok (.iconst 0, 1) := by decide +kernel
theorem dX11_law_2 : decode cX11_law 2 = .ok (.bipush 6, 2) := by decide +kernel
theorem dX11_law_4 : decode cX11_law 4 = .ok (.invokestatic 42, 3) := by decide +kernel
theorem dX11_law_7 : decode cX11_law 7 = .ok (.ifCond .ne 5, 3) := by decide +kernel
theorem dX11_law_10 : decode cX11_law 10 = .ok (.iconst (-1), 1) := by decide +kernel
theorem dX11_law_11 : decode cX11_law 11 = .ok (.ireturn, 1) := by decide +kernel
theorem dX11_law_12 : decode cX11_law 12 = .ok (.iload_n 2, 1) := by decide +kernel
theorem dX11_law_13 : decode cX11_law 13 = .ok (.iconst 0, 1) := by decide +kernel
theorem dX11_law_14 : decode cX11_law 14 = .ok (.bipush 9, 2) := by decide +kernel
theorem dX11_law_16 : decode cX11_law 16 = .ok (.invokestatic 42, 3) := by decide +kernel
theorem dX11_law_19 : decode cX11_law 19 = .ok (.ifCond .ne 6, 3) := by decide +kernel
theorem dX11_law_22 : decode cX11_law 22 = .ok (.bipush (-2), 2) := by decide +kernel
theorem dX11_law_24 : decode cX11_law 24 = .ok (.ireturn, 1) := by decide +kernel
theorem dX11_law_25 : decode cX11_law 25 = .ok (.aload_n 0, 1) := by decide +kernel
theorem dX11_law_26 : decode cX11_law 26 = .ok (.getfield 12, 3) := by decide +kernel
theorem dX11_law_29 : decode cX11_law 29 = .ok (.getfield 95, 3) := by decide +kernel
theorem dX11_law_32 : decode cX11_law 32 = .ok (.bipush 8, 2) := by decide +kernel
theorem dX11_law_34 : decode cX11_law 34 = .ok (.if_icmp .lt 6, 3) := by decide +kernel
theorem dX11_law_37 : decode cX11_law 37 = .ok (.bipush (-4), 2) := by decide +kernel
theorem dX11_law_39 : decode cX11_law 39 = .ok (.ireturn, 1) := by decide +kernel
theorem dX11_law_40 : decode cX11_law 40 = .ok (.aload_n 0, 1) := by decide +kernel
theorem dX11_law_41 : decode cX11_law 41 = .ok (.getfield 24, 3) := by decide +kernel
theorem dX11_law_44 : decode cX11_law 44 = .ok (.aload_n 0, 1) := by decide +kernel
theorem dX11_law_45 : decode cX11_law 45 = .ok (.getfield 12, 3) := by decide +kernel
theorem dX11_law_48 : decode cX11_law 48 = .ok (.getfield 92, 3) := by decide +kernel
theorem dX11_law_51 : decode cX11_law 51 = .ok (.aload_n 0, 1) := by decide +kernel
theorem dX11_law_52 : decode cX11_law 52 = .ok (.getfield 12, 3) := by decide +kernel
theorem dX11_law_55 : decode cX11_law 55 = .ok (.getfield 89, 3) := by decide +kernel
theorem dX11_law_58 : decode cX11_law 58 = .ok (.invokevirtual 98, 3) := by decide +kernel
theorem dX11_law_61 : decode cX11_law 61 = .ok (.istore_n 3, 1) := by decide +kernel
theorem dX11_law_62 : decode cX11_law 62 = .ok (.aload_n 0, 1) := by decide +kernel
theorem dX11_law_63 : decode cX11_law 63 = .ok (.getfield 12, 3) := by decide +kernel
