theorem dX11_atLeast_34 : decode cX11_atLeast 34 = .ok (.isub, 1) := by decide +kernel
theorem dX11_atLeast_35 : decode cX11_atLeast 35 = .ok (.invokestatic 195, 3) := by decide +kernel
theorem dX11_atLeast_38 : decode cX11_atLeast 38 = .ok (.lmul, 1) := by decide +kernel
theorem dX11_atLeast_39 : decode cX11_atLeast 39 = .ok (.ladd, 1) := by decide +kernel
theorem dX11_atLeast_40 : decode cX11_atLeast 40 = .ok (.lstore_n 3, 1) := by decide +kernel
theorem dX11_atLeast_41 : decode cX11_atLeast 41 = .ok (.iinc 5 1, 3) := by decide +kernel
theorem dX11_atLeast_44 : decode cX11_atLeast 44 = .ok (.goto (-39), 3) := by decide +kernel
theorem dX11_atLeast_47 : decode cX11_atLeast 47 = .ok (.lload_n 3, 1) := by decide +kernel
theorem dX11_atLeast_48 : decode cX11_atLeast 48 = .ok (.lreturn, 1) := by decide +kernel
set_option maxRecDepth 20000 in
theorem ggX11_inLowest_X11_commonDivisor : GoodIn wsX11_inLowest wsX11_commonDivisor := goodIn_r _ [8] (by decide +kernel) (by decide +kernel)
set_option maxRecDepth 20000 in
theorem gX11_inLowest_X11_commonDivisor : GoodIn wsX11_inLowest (va_wsS RX11 284 yX11_commonDivisor wsX11_commonDivisor) := goodIn_app (goodIn_of _ (by decide +kernel)) ggX11_inLowest_X11_commonDivisor
theorem dX11_inLowest_0 : decode cX11_inLowest 0 = .ok (.lconst 1, 1) := by decide +kernel
theorem dX11_inLowest_1 : decode cX11_inLowest 1 = .ok (.lload_n 0, 1) := by decide +kernel
theorem dX11_inLowest_2 : decode cX11_inLowest 2 = .ok (.lload_n 2, 1) := by decide +kernel
theorem dX11_inLowest_3 : decode cX11_inLowest 3 = .ok (.invokestatic 284, 3) := by decide +kernel
theorem dX11_inLowest_6 : decode cX11_inLowest 6 = .ok (.invokestatic 288, 3) := by decide +kernel
theorem dX11_inLowest_9 : decode cX11_inLowest 9 = .ok (.lstore 5, 2) := by decide +kernel
theorem dX11_inLowest_11 : decode cX11_inLowest 11 = .ok (.iload 4, 2) := by decide +kernel
theorem dX11_inLowest_13 : decode cX11_inLowest 13 = .ok (.ifCond .ne 7, 3) := by decide +kernel
theorem dX11_inLowest_16 : decode cX11_inLowest 16 = .ok (.lload_n 0, 1) := by decide +kernel
theorem dX11_inLowest_17 : decode cX11_inLowest 17 = .ok (.goto 4, 3) := by decide +kernel
theorem dX11_inLowest_20 : decode cX11_inLowest 20 = .ok (.lload_n 2, 1) := by decide +kernel
theorem dX11_inLowest_21 : decode cX11_inLowest 21 = .ok (.lload 5, 2) := by decide +kernel
theorem dX11_inLowest_23 : decode cX11_inLowest 23 = .ok (.ldiv, 1) := by decide +kernel
theorem dX11_inLowest_24 : decode cX11_inLowest 24 = .ok (.lreturn, 1) := by decide +kernel
theorem dX11_commonDivisor_0 : decode cX11_commonDivisor 0 = .ok (.iconst 0, 1) := by decide +kernel
theorem dX11_commonDivisor_1 : decode cX11_commonDivisor 1 = .ok (.istore 4, 2) := by decide +kernel
theorem dX11_commonDivisor_3 : decode cX11_commonDivisor 3 = .ok (.iload 4, 2) := by decide +kernel
theorem dX11_commonDivisor_5 : decode cX11_commonDivisor 5 = .ok (.bipush 100, 2) := by decide +kernel
theorem dX11_commonDivisor_7 : decode cX11_commonDivisor 7 = .ok (.if_icmp .ge 25, 3) := by decide +kernel
theorem dX11_commonDivisor_10 : decode cX11_commonDivisor 10 = .ok (.lload_n 2, 1) := by decide +kernel
theorem dX11_commonDivisor_11 : decode cX11_commonDivisor 11 = .ok (.lconst 0, 1) := by decide +kernel
theorem dX11_commonDivisor_12 : decode cX11_commonDivisor 12 = .ok (.lcmp, 1) := by decide +kernel
theorem dX11_commonDivisor_13 : decode cX11_commonDivisor 13 = .ok (.ifCond .eq 19, 3) := by decide +kernel
theorem dX11_commonDivisor_16 : decode cX11_commonDivisor 16 = .ok (.lload_n 0, 1) := by decide +kernel
theorem dX11_commonDivisor_17 : decode cX11_commonDivisor 17 = .ok (.lload_n 2, 1) := by decide +kernel
theorem dX11_commonDivisor_18 : decode cX11_commonDivisor 18 = .ok (.lrem, 1) := by decide +kernel
theorem dX11_commonDivisor_19 : decode cX11_commonDivisor 19 = .ok (.lstore 5, 2) := by decide +kernel
theorem dX11_commonDivisor_21 : decode cX11_commonDivisor 21 = .ok (.lload_n 2, 1) := by decide +kernel
theorem dX11_commonDivisor_22 : decode cX11_commonDivisor 22 = .ok (.lstore_n 0, 1) := by decide +kernel
theorem dX11_commonDivisor_23 : decode cX11_commonDivisor 23 = .ok (.lload 5, 2) := by decide +kernel
theorem dX11_commonDivisor_25 : decode cX11_commonDivisor 25 = .ok (.lstore_n 2, 1) := by decide +kernel
theorem dX11_commonDivisor_26 : decode cX11_commonDivisor 26 = .ok (.iinc 4 1, 3) := by decide +kernel
theorem dX11_commonDivisor_29 : decode cX11_commonDivisor 29 = .ok (.goto (-26), 3) := by decide +kernel
theorem dX11_commonDivisor_32 : decode cX11_commonDivisor 32 = .ok (.lload_n 0, 1) := by decide +kernel
theorem dX11_commonDivisor_33 : decode cX11_commonDivisor 33 = .ok (.lreturn, 1) := by decide +kernel
theorem dX12_init_0 : decode cX12_init 0 = .ok (.aload_n 0, 1) := by decide +kernel
theorem dX12_init_1 : decode cX12_init 1 = .ok (.invokespecial 3, 3) := by decide +kernel
theorem dX12_init_4 : decode cX12_init 4 = .ok (.aload_n 0, 1) := by decide +kernel
theorem dX12_init_5 : decode cX12_init 5 = .ok (.sipush 1394, 3) := by decide +kernel
theorem dX12_init_8 : decode cX12_init 8 = .ok (.newarray .int, 2) := by decide +kernel
theorem dX12_init_10 : decode cX12_init 10 = .ok (.putfield 9, 3) := by decide +kernel
theorem dX12_init_13 : decode cX12_init 13 = .ok (.aload_n 0, 1) := by decide +kernel
theorem dX12_init_14 : decode cX12_init 14 = .ok (.sipush 1394, 3) := by decide +kernel
theorem dX12_init_17 : decode cX12_init 17 = .ok (.newarray .int, 2) := by decide +kernel
theorem dX12_init_19 : decode cX12_init 19 = .ok (.putfield 15, 3) := by decide +kernel
theorem dX12_init_22 : decode cX12_init 22 = .ok (.aload_n 0, 1) := by decide +kernel
theorem dX12_init_23 : decode cX12_init 23 = .ok (.iconst 5, 1) := by decide +kernel
theorem dX12_init_24 : decode cX12_init 24 = .ok (.newarray .int, 2) := by decide +kernel
theorem dX12_init_26 : decode cX12_init 26 = .ok (.putfield 18, 3) := by decide +kernel
theorem dX12_init_29 : decode cX12_init 29 = .ok (.aload_n 0, 1) := by decide +kernel
theorem dX12_init_30 : decode cX12_init 30 = .ok (.bipush 64, 2) := by decide +kernel
theorem dX12_init_32 : decode cX12_init 32 = .ok (.newarray .boolean, 2) := by decide +kernel
theorem dX12_init_34 : decode cX12_init 34 = .ok (.putfield 21, 3) := by decide +kernel
theorem dX12_init_37 : decode cX12_init 37 = .ok (.aload_n 0, 1) := by decide +kernel
theorem dX12_init_38 : decode cX12_init 38 = .ok (.bipush 20, 2) := by decide +kernel
theorem dX12_init_40 : decode cX12_init 40 = .ok (.newarray .int, 2) := by decide +kernel
theorem dX12_init_42 : decode cX12_init 42 = .ok (.putfield 25, 3) := by decide +kernel
theorem dX12_init_45 : decode cX12_init 45 = .ok (.return_, 1) := by decide +kernel
theorem dX12_in_0 : decode cX12_in 0 = .ok (.iload_n 0, 1) := by decide +kernel
theorem dX12_in_1 : decode cX12_in 1 = .ok (.iload_n 1, 1) := by decide +kernel
theorem dX12_in_2 : decode cX12_in 2 = .ok (.if_icmp .lt 12, 3) := by decide +kernel
theorem dX12_in_5 : decode cX12_in 5 = .ok (.iload_n 0, 1) := by decide +kernel
theorem dX12_in_6 : decode cX12_in 6 = .ok (.iload_n 2, 1) := by decide +kernel
theorem dX12_in_7 : decode cX12_in 7 = .ok (.if_icmp .gt 7, 3) := by decide +kernel
theorem dX12_in_10 : decode cX12_in 10 = .ok (.iconst 1, 1) := by decide +kernel
theorem dX12_in_11 : decode cX12_in 11 = .ok (.goto 4, 3) := by decide +kernel
theorem dX12_in_14 : decode cX12_in 14 = .ok (.iconst 0, 1) := by decide +kernel
theorem dX12_in_15 : decode cX12_in 15 = .ok (.ireturn, 1) := by decide +kernel
set_option maxRecDepth 20000 in
theorem ggX12_isCoin_X12_in : GoodIn wsX12_isCoin wsX12_in := goodIn_r _ [5] (by decide +kernel) (by decide +kernel)
set_option maxRecDepth 20000 in
theorem gX12_isCoin_X12_in : GoodIn wsX12_isCoin (va_wsS RX12 32 yX12_in wsX12_in) := goodIn_app (goodIn_of _ (by decide +kernel)) ggX12_isCoin_X12_in
theorem dX12_isCoin_0 : decode cX12_isCoin 0 = .ok (.iload_n 1, 1) := by decide +kernel
theorem dX12_isCoin_1 : decode cX12_isCoin 1 = .ok (.iconst 0, 1) := by decide +kernel
theorem dX12_isCoin_2 : decode cX12_isCoin 2 = .ok (.aload_n 0, 1) := by decide +kernel
theorem dX12_isCoin_3 : decode cX12_isCoin 3 = .ok (.getfield 9, 3) := by decide +kernel
theorem dX12_isCoin_6 : decode cX12_isCoin 6 = .ok (.iconst 0, 1) := by decide +kernel
theorem dX12_isCoin_7 : decode cX12_isCoin 7 = .ok (.iaload, 1) := by decide +kernel
theorem dX12_isCoin_8 : decode cX12_isCoin 8 = .ok (.iconst 1, 1) := by decide +kernel
theorem dX12_isCoin_9 : decode cX12_isCoin 9 = .ok (.isub, 1) := by decide +kernel
theorem dX12_isCoin_10 : decode cX12_isCoin 10 = .ok (.invokestatic 32, 3) := by decide +kernel
theorem dX12_isCoin_13 : decode cX12_isCoin 13 = .ok (.ireturn, 1) := by decide +kernel
set_option maxRecDepth 20000 in
theorem ggX12_isHand_X12_in : GoodIn wsX12_isHand wsX12_in := goodIn_r _ [5] (by decide +kernel) (by decide +kernel)
set_option maxRecDepth 20000 in
theorem gX12_isHand_X12_in : GoodIn wsX12_isHand (va_wsS RX12 32 yX12_in wsX12_in) := goodIn_app (goodIn_of _ (by decide +kernel)) ggX12_isHand_X12_in
theorem dX12_isHand_0 : decode cX12_isHand 0 = .ok (.iload_n 1, 1) := by decide +kernel
theorem dX12_isHand_1 : decode cX12_isHand 1 = .ok (.iconst 0, 1) := by decide +kernel
theorem dX12_isHand_2 : decode cX12_isHand 2 = .ok (.aload_n 0, 1) := by decide +kernel
theorem dX12_isHand_3 : decode cX12_isHand 3 = .ok (.getfield 9, 3) := by decide +kernel
theorem dX12_isHand_6 : decode cX12_isHand 6 = .ok (.iconst 1, 1) := by decide +kernel
theorem dX12_isHand_7 : decode cX12_isHand 7 = .ok (.iaload, 1) := by decide +kernel
theorem dX12_isHand_8 : decode cX12_isHand 8 = .ok (.iconst 1, 1) := by decide +kernel
theorem dX12_isHand_9 : decode cX12_isHand 9 = .ok (.isub, 1) := by decide +kernel
theorem dX12_isHand_10 : decode cX12_isHand 10 = .ok (.invokestatic 32, 3) := by decide +kernel
theorem dX12_isHand_13 : decode cX12_isHand 13 = .ok (.ireturn, 1) := by decide +kernel
set_option maxRecDepth 20000 in
theorem ggX12_isLaw_X12_in : GoodIn wsX12_isLaw wsX12_in := goodIn_r _ [5] (by decide +kernel) (by decide +kernel)
set_option maxRecDepth 20000 in
theorem gX12_isLaw_X12_in : GoodIn wsX12_isLaw (va_wsS RX12 32 yX12_in wsX12_in) := goodIn_app (goodIn_of _ (by decide +kernel)) ggX12_isLaw_X12_in
theorem dX12_isLaw_0 : decode cX12_isLaw 0 = .ok (.iload_n 1, 1) := by decide +kernel
theorem dX12_isLaw_1 : decode cX12_isLaw 1 = .ok (.iconst 0, 1) := by decide +kernel
theorem dX12_isLaw_2 : decode cX12_isLaw 2 = .ok (.aload_n 0, 1) := by decide +kernel
theorem dX12_isLaw_3 : decode cX12_isLaw 3 = .ok (.getfield 9, 3) := by decide +kernel
theorem dX12_isLaw_6 : decode cX12_isLaw 6 = .ok (.iconst 2, 1) := by decide +kernel
theorem dX12_isLaw_7 : decode cX12_isLaw 7 = .ok (.iaload, 1) := by decide +kernel
theorem dX12_isLaw_8 : decode cX12_isLaw 8 = .ok (.iconst 1, 1) := by decide +kernel
theorem dX12_isLaw_9 : decode cX12_isLaw 9 = .ok (.isub, 1) := by decide +kernel
theorem dX12_isLaw_10 : decode cX12_isLaw 10 = .ok (.invokestatic 32, 3) := by decide +kernel
theorem dX12_isLaw_13 : decode cX12_isLaw 13 = .ok (.ireturn, 1) := by decide +kernel
set_option maxRecDepth 20000 in
theorem ggX12_areThere_X12_isLaw : GoodIn wsX12_areThere wsX12_isLaw := goodIn_r _ [5, 6, 7, 8, 4, 9, 18, 19, 20, 21, 22, 23, 24, 25, 26, 27, 28, 29, 30, 31, 32, 33, 34, 35, 36, 37, 38, 39] (by decide +kernel) (by decide +kernel)
set_option maxRecDepth 20000 in
theorem gX12_areThere_X12_isLaw : GoodIn wsX12_areThere (wsV RX12 36 RX12 yX12_isLaw wsX12_isLaw) := goodIn_app (goodIn_of _ (by decide +kernel)) ggX12_areThere_X12_isLaw
set_option maxRecDepth 20000 in
theorem ggX12_areThere_X12_isHand : GoodIn wsX12_areThere wsX12_isHand := goodIn_r _ [13, 6, 7, 8, 4, 9, 18, 19, 20, 21, 22, 23, 24, 25, 26, 27, 28, 29, 30, 31, 32, 33, 34, 35, 36, 37, 38, 39] (by decide +kernel) (by decide +kernel)
set_option maxRecDepth 20000 in
theorem gX12_areThere_X12_isHand : GoodIn wsX12_areThere (wsV RX12 40 RX12 yX12_isHand wsX12_isHand) := goodIn_app (goodIn_of _ (by decide +kernel)) ggX12_areThere_X12_isHand
set_option maxRecDepth 20000 in
theorem ggX12_areThere_X12_isCoin : GoodIn wsX12_areThere wsX12_isCoin := goodIn_r _ [17, 6, 7, 8, 4, 9, 18, 19, 20, 21, 22, 23, 24, 25, 26, 27, 28, 29, 30, 31, 32, 33, 34, 35, 36, 37, 38, 39] (by decide +kernel) (by decide +kernel)
set_option maxRecDepth 20000 in
theorem gX12_areThere_X12_isCoin : GoodIn wsX12_areThere (wsV RX12 43 RX12 yX12_isCoin wsX12_isCoin) := goodIn_app (goodIn_of _ (by decide +kernel)) ggX12_areThere_X12_isCoin
theorem dX12_areThere_0 : decode cX12_areThere 0 = .ok (.aload_n 0, 1) := by decide +kernel
theorem dX12_areThere_1 : decode cX12_areThere 1 = .ok (.iload_n 1, 1) := by decide +kernel
theorem dX12_areThere_2 : decode cX12_areThere 2 = .ok (.invokevirtual 36, 3) := by decide +kernel
theorem dX12_areThere_5 : decode cX12_areThere 5 = .ok (.ifCond .eq 23, 3) := by decide +kernel
theorem dX12_areThere_8 : decode cX12_areThere 8 = .ok (.aload_n 0, 1) := by decide +kernel
theorem dX12_areThere_9 : decode cX12_areThere 9 = .ok (.iload_n 2, 1) := by decide +kernel
theorem dX12_areThere_10 : decode cX12_areThere 10 = .ok (.invokevirtual 40, 3) := by decide +kernel
theorem dX12_areThere_13 : decode cX12_areThere 13 = .ok (.ifCond .eq 15, 3) := by decide +kernel
theorem dX12_areThere_16 : decode cX12_areThere 16 = .ok (.aload_n 0, 1) := by decide +kernel
theorem dX12_areThere_17 : decode cX12_areThere 17 = .ok (.iload_n 3, 1) := by decide +kernel
theorem dX12_areThere_18 : decode cX12_areThere 18 = .ok (.invokevirtual 43, 3) := by decide +kernel
theorem dX12_areThere_21 : decode cX12_areThere 21 = .ok (.ifCond .eq 7, 3) := by decide +kernel
theorem dX12_areThere_24 : decode cX12_areThere 24 = .ok (.iconst 1, 1) := by decide +kernel
theorem dX12_areThere_25 : decode cX12_areThere 25 = .ok (.goto 4, 3) := by decide +kernel
theorem dX12_areThere_28 : decode cX12_areThere 28 = .ok (.iconst 0, 1) := by decide +kernel
theorem dX12_areThere_29 : decode cX12_areThere 29 = .ok (.ireturn, 1) := by decide +kernel
set_option maxRecDepth 20000 in
theorem ggX12_coin_X12_in : GoodIn wsX12_coin wsX12_in := goodIn_r _ [5] (by decide +kernel) (by decide +kernel)
set_option maxRecDepth 20000 in
theorem gX12_coin_X12_in : GoodIn wsX12_coin (va_wsS RX12 32 yX12_in wsX12_in) := goodIn_app (goodIn_of _ (by decide +kernel)) ggX12_coin_X12_in
theorem dX12_coin_0 : decode cX12_coin 0 = .ok (.iload_n 1, 1) := by decide +kernel
theorem dX12_coin_1 : decode cX12_coin 1 = .ok (.iconst 0, 1) := by decide +kernel
theorem dX12_coin_2 : decode cX12_coin 2 = .ok (.bipush 9, 2) := by decide +kernel
theorem dX12_coin_4 : decode cX12_coin 4 = .ok (.invokestatic 32, 3) := by decide +kernel
theorem dX12_coin_7 : decode cX12_coin 7 = .ok (.ifCond .eq 13, 3) := by decide +kernel
theorem dX12_coin_10 : decode cX12_coin 10 = .ok (.iload_n 2, 1) := by decide +kernel
theorem dX12_coin_11 : decode cX12_coin 11 = .ok (.iconst 0, 1) := by decide +kernel
theorem dX12_coin_12 : decode cX12_coin 12 = .ok (.bipush 9, 2) := by decide +kernel
theorem dX12_coin_14 : decode cX12_coin 14 = .ok (.invokestatic 32, 3) := by decide +kernel
theorem dX12_coin_17 : decode cX12_coin 17 = .ok (.ifCond .ne 6, 3) := by decide +kernel
theorem dX12_coin_20 : decode cX12_coin 20 = .ok (.bipush (-2), 2) := by decide +kernel
theorem dX12_coin_22 : decode cX12_coin 22 = .ok (.ireturn, 1) := by decide +kernel
theorem dX12_coin_23 : decode cX12_coin 23 = .ok (.aload_n 0, 1) := by decide +kernel
theorem dX12_coin_24 : decode cX12_coin 24 = .ok (.getfield 9, 3) := by decide +kernel
theorem dX12_coin_27 : decode cX12_coin 27 = .ok (.iconst 0, 1) := by decide +kernel
theorem dX12_coin_28 : decode cX12_coin 28 = .ok (.iaload, 1) := by decide +kernel
theorem dX12_coin_29 : decode cX12_coin 29 = .ok (.bipush 6, 2) := by decide +kernel
theorem dX12_coin_31 : decode cX12_coin 31 = .ok (.if_icmp .ne 6, 3) := by decide +kernel
theorem dX12_coin_34 : decode cX12_coin 34 = .ok (.bipush (-4), 2) := by decide +kernel
theorem dX12_coin_36 : decode cX12_coin 36 = .ok (.ireturn, 1) := by decide +kernel
theorem dX12_coin_37 : decode cX12_coin 37 = .ok (.aload_n 0, 1) := by decide +kernel
theorem dX12_coin_38 : decode cX12_coin 38 = .ok (.getfield 9, 3) := by decide +kernel
theorem dX12_coin_41 : decode cX12_coin 41 = .ok (.sipush 130, 3) := by decide +kernel
theorem dX12_coin_44 : decode cX12_coin 44 = .ok (.aload_n 0, 1) := by decide +kernel
theorem dX12_coin_45 : decode cX12_coin 45 = .ok (.getfield 9, 3) := by decide +kernel
theorem dX12_coin_48 : decode cX12_coin 48 = .ok (.iconst 0, 1) := by decide +kernel
theorem dX12_coin_49 : decode cX12_coin 49 = .ok (.iaload, 1) := by decide +kernel
theorem dX12_coin_50 : decode cX12_coin 50 = .ok (.iadd, 1) := by decide +kernel
theorem dX12_coin_51 : decode cX12_coin 51 = .ok (.iload_n 1, 1) := by decide +kernel
theorem dX12_coin_52 : decode cX12_coin 52 = .ok (.iastore, 1) := by decide +kernel
theorem dX12_coin_53 : decode cX12_coin 53 = .ok (.aload_n 0, 1) := by decide +kernel
theorem dX12_coin_54 : decode cX12_coin 54 = .ok (.getfield 9, 3) := by decide +kernel
theorem dX12_coin_57 : decode cX12_coin 57 = .ok (.sipush 136, 3) := by decide +kernel
theorem dX12_coin_60 : decode cX12_coin 60 = .ok (.aload_n 0, 1) := by decide +kernel
theorem dX12_coin_61 : decode cX12_coin 61 = .ok (.getfield 9, 3) := by decide +kernel
theorem dX12_coin_64 : decode cX12_coin 64 = .ok (.iconst 0, 1) := by decide +kernel
theorem dX12_coin_65 : decode cX12_coin 65 = .ok (.iaload, 1) := by decide +kernel
theorem dX12_coin_66 : decode cX12_coin 66 = .ok (.iadd, 1) := by decide +kernel
theorem dX12_coin_67 : decode cX12_coin 67 = .ok (.iload_n 2, 1) := by decide +kernel
theorem dX12_coin_68 : decode cX12_coin 68 = .ok (.iastore, 1) := by decide +kernel
theorem dX12_coin_69 : decode cX12_coin 69 = .ok (.aload_n 0, 1) := by decide +kernel
theorem dX12_coin_70 : decode cX12_coin 70 = .ok (.getfield 9, 3) := by decide +kernel
theorem dX12_coin_73 : decode cX12_coin 73 = .ok (.iconst 0, 1) := by decide +kernel
theorem dX12_coin_74 : decode cX12_coin 74 = .ok (.dup2, 1) := by decide +kernel
theorem dX12_coin_75 : decode cX12_coin 75 = .ok (.iaload, 1) := by decide +kernel
theorem dX12_coin_76 : decode cX12_coin 76 = .ok (.iconst 1, 1) := by decide +kernel
theorem dX12_coin_77 : decode cX12_coin 77 = .ok (.iadd, 1) := by decide +kernel
theorem dX12_coin_78 : decode cX12_coin 78 = .ok (.iastore, 1) := by decide +kernel
theorem dX12_coin_79 : decode cX12_coin 79 = .ok (.aload_n 0, 1) := by decide +kernel
theorem dX12_coin_80 : decode cX12_coin 80 = .ok (.getfield 9, 3) := by decide +kernel
theorem dX12_coin_83 : decode cX12_coin 83 = .ok (.iconst 0, 1) := by decide +kernel
theorem dX12_coin_84 : decode cX12_coin 84 = .ok (.iaload, 1) := by decide +kernel
theorem dX12_coin_85 : decode cX12_coin 85 = .ok (.iconst 1, 1) := by decide +kernel
theorem dX12_coin_86 : decode cX12_coin 86 = .ok (.isub, 1) := by decide +kernel
theorem dX12_coin_87 : decode cX12_coin 87 = .ok (.ireturn, 1) := by decide +kernel
set_option maxRecDepth 20000 in
theorem ggX12_hand_X12_in : GoodIn wsX12_hand wsX12_in := goodIn_r _ [5] (by decide +kernel) (by decide +kernel)
set_option maxRecDepth 20000 in
theorem gX12_hand_X12_in : GoodIn wsX12_hand (va_wsS RX12 32 yX12_in wsX12_in) := goodIn_app (goodIn_of _ (by decide +kernel)) ggX12_hand_X12_in
theorem dX12_hand_0 : decode cX12_hand 0 = .ok (.iload_n 1, 1) := by decide +kernel
theorem dX12_hand_1 : decode cX12_hand 1 = .ok (.iconst 1, 1) := by decide +kernel
theorem dX12_hand_2 : decode cX12_hand 2 = .ok (.bipush 30, 2) := by decide +kernel
theorem dX12_hand_4 : decode cX12_hand 4 = .ok (.invokestatic 32, 3) := by decide +kernel
theorem dX12_hand_7 : decode cX12_hand 7 = .ok (.ifCond .eq 13, 3) := by decide +kernel
theorem dX12_hand_10 : decode cX12_hand 10 = .ok (.iload_n 2, 1) := by decide +kernel
theorem dX12_hand_11 : decode cX12_hand 11 = .ok (.iconst 0, 1) := by decide +kernel
theorem dX12_hand_12 : decode cX12_hand 12 = .ok (.bipush 9, 2) := by decide +kernel
theorem dX12_hand_14 : decode cX12_hand 14 = .ok (.invokestatic 32, 3) := by decide +kernel
theorem dX12_hand_17 : decode cX12_hand 17 = .ok (.ifCond .ne 6, 3) := by decide +kernel
theorem dX12_hand_20 : decode cX12_hand 20 = .ok (.bipush (-2), 2) := by decide +kernel
theorem dX12_hand_22 : decode cX12_hand 22 = .ok (.ireturn, 1) := by decide +kernel
theorem dX12_hand_23 : decode cX12_hand 23 = .ok (.aload_n 0, 1) := by decide +kernel
theorem dX12_hand_24 : decode cX12_hand 24 = .ok (.getfield 9, 3) := by decide +kernel
theorem dX12_hand_27 : decode cX12_hand 27 = .ok (.iconst 1, 1) := by decide +kernel
theorem dX12_hand_28 : decode cX12_hand 28 = .ok (.iaload, 1) := by decide +kernel
theorem dX12_hand_29 : decode cX12_hand 29 = .ok (.bipush 6, 2) := by decide +kernel
theorem dX12_hand_31 : decode cX12_hand 31 = .ok (.if_icmp .ne 6, 3) := by decide +kernel
theorem dX12_hand_34 : decode cX12_hand 34 = .ok (.bipush (-4), 2) := by decide +kernel
theorem dX12_hand_36 : decode cX12_hand 36 = .ok (.ireturn, 1) := by decide +kernel
theorem dX12_hand_37 : decode cX12_hand 37 = .ok (.aload_n 0, 1) := by decide +kernel
theorem dX12_hand_38 : decode cX12_hand 38 = .ok (.getfield 9, 3) := by decide +kernel
theorem dX12_hand_41 : decode cX12_hand 41 = .ok (.sipush 142, 3) := by decide +kernel
theorem dX12_hand_44 : decode cX12_hand 44 = .ok (.aload_n 0, 1) := by decide +kernel
theorem dX12_hand_45 : decode cX12_hand 45 = .ok (.getfield 9, 3) := by decide +kernel
theorem dX12_hand_48 : decode cX12_hand 48 = .ok (.iconst 1, 1) := by decide +kernel
theorem dX12_hand_49 : decode cX12_hand 49 = .ok (.iaload, 1) := by decide +kernel
theorem dX12_hand_50 : decode cX12_hand 50 = .ok (.iadd, 1) := by decide +kernel
theorem dX12_hand_51 : decode cX12_hand 51 = .ok (.iload_n 1, 1) := by decide +kernel
theorem dX12_hand_52 : decode cX12_hand 52 = .ok (.iastore, 1) := by decide +kernel
theorem dX12_hand_53 : decode cX12_hand 53 = .ok (.aload_n 0, 1) := by decide +kernel
theorem dX12_hand_54 : decode cX12_hand 54 = .ok (.getfield 9, 3) := by decide +kernel
theorem dX12_hand_57 : decode cX12_hand 57 = .ok (.sipush 148, 3) := by decide +kernel
theorem dX12_hand_60 : decode cX12_hand 60 = .ok (.aload_n 0, 1) := by decide +kernel
theorem dX12_hand_61 : decode cX12_hand 61 = .ok (.getfield 9, 3) := by decide +kernel
theorem dX12_hand_64 : decode cX12_hand 64 = .ok (.iconst 1, 1) := by decide +kernel
theorem dX12_hand_65 : decode cX12_hand 65 = .ok (.iaload, 1) := by decide +kernel
theorem dX12_hand_66 : decode cX12_hand 66 = .ok (.iadd, 1) := by decide +kernel
theorem dX12_hand_67 : decode cX12_hand 67 = .ok (.iload_n 2, 1) := by decide +kernel
theorem dX12_hand_68 : decode cX12_hand 68 = .ok (.iastore, 1) := by decide +kernel
theorem dX12_hand_69 : decode cX12_hand 69 = .ok (.aload_n 0, 1) := by decide +kernel
theorem dX12_hand_70 : decode cX12_hand 70 = .ok (.getfield 9, 3) := by decide +kernel
theorem dX12_hand_73 : decode cX12_hand 73 = .ok (.iconst 1, 1) := by decide +kernel
theorem dX12_hand_74 : decode cX12_hand 74 = .ok (.dup2, 1) := by decide +kernel
theorem dX12_hand_75 : decode cX12_hand 75 = .ok (.iaload, 1) := by decide +kernel
theorem dX12_hand_76 : decode cX12_hand 76 = .ok (.iconst 1, 1) := by decide +kernel
theorem dX12_hand_77 : decode cX12_hand 77 = .ok (.iadd, 1) := by decide +kernel
theorem dX12_hand_78 : decode cX12_hand 78 = .ok (.iastore, 1) := by decide +kernel
theorem dX12_hand_79 : decode cX12_hand 79 = .ok (.aload_n 0, 1) := by decide +kernel
theorem dX12_hand_80 : decode cX12_hand 80 = .ok (.getfield 9, 3) := by decide +kernel
theorem dX12_hand_83 : decode cX12_hand 83 = .ok (.iconst 1, 1) := by decide +kernel
theorem dX12_hand_84 : decode cX12_hand 84 = .ok (.iaload, 1) := by decide +kernel
theorem dX12_hand_85 : decode cX12_hand 85 = .ok (.iconst 1, 1) := by decide +kernel
theorem dX12_hand_86 : decode cX12_hand 86 = .ok (.isub, 1) := by decide +kernel
theorem dX12_hand_87 : decode cX12_hand 87 = .ok (.ireturn, 1) := by decide +kernel
theorem dX12_allOf_0 : decode cX12_allOf 0 = .ok (.iconst 0, 1) := by decide +kernel
theorem dX12_allOf_1 : decode cX12_allOf 1 = .ok (.istore_n 3, 1) := by decide +kernel
theorem dX12_allOf_2 : decode cX12_allOf 2 = .ok (.iconst 0, 1) := by decide +kernel
theorem dX12_allOf_3 : decode cX12_allOf 3 = .ok (.istore 4, 2) := by decide +kernel
theorem dX12_allOf_5 : decode cX12_allOf 5 = .ok (.iload 4, 2) := by decide +kernel
theorem dX12_allOf_7 : decode cX12_allOf 7 = .ok (.bipush 6, 2) := by decide +kernel
theorem dX12_allOf_9 : decode cX12_allOf 9 = .ok (.if_icmp .ge 26, 3) := by decide +kernel
theorem dX12_allOf_12 : decode cX12_allOf 12 = .ok (.iload_n 3, 1) := by decide +kernel
theorem dX12_allOf_13 : decode cX12_allOf 13 = .ok (.aload_n 0, 1) := by decide +kernel
theorem dX12_allOf_14 : decode cX12_allOf 14 = .ok (.getfield 9, 3) := by decide +kernel
theorem dX12_allOf_17 : decode cX12_allOf 17 = .ok (.iload_n 1, 1) := by decide +kernel
theorem dX12_allOf_18 : decode cX12_allOf 18 = .ok (.bipush 6, 2) := by decide +kernel
theorem dX12_allOf_20 : decode cX12_allOf 20 = .ok (.iload_n 2, 1) := by decide +kernel
theorem dX12_allOf_21 : decode cX12_allOf 21 = .ok (.imul, 1) := by decide +kernel
theorem dX12_allOf_22 : decode cX12_allOf 22 = .ok (.iadd, 1) := by decide +kernel
theorem dX12_allOf_23 : decode cX12_allOf 23 = .ok (.iload 4, 2) := by decide +kernel
theorem dX12_allOf_25 : decode cX12_allOf 25 = .ok (.iadd, 1) := by decide +kernel
theorem dX12_allOf_26 : decode cX12_allOf 26 = .ok (.iaload, 1) := by decide +kernel
theorem dX12_allOf_27 : decode cX12_allOf 27 = .ok (.iadd, 1) := by decide +kernel
theorem dX12_allOf_28 : decode cX12_allOf 28 = .ok (.istore_n 3, 1) := by decide +kernel
theorem dX12_allOf_29 : decode cX12_allOf 29 = .ok (.iinc 4 1, 3) := by decide +kernel
theorem dX12_allOf_32 : decode cX12_allOf 32 = .ok (.goto (-27), 3) := by decide +kernel
theorem dX12_allOf_35 : decode cX12_allOf 35 = .ok (.iload_n 3, 1) := by decide +kernel
theorem dX12_allOf_36 : decode cX12_allOf 36 = .ok (.ireturn, 1) := by decide +kernel
set_option maxRecDepth 20000 in
theorem ggX12_leansOf_X12_allOf : GoodIn wsX12_leansOf wsX12_allOf := goodIn_r _ [5, 6, 7, 8, 9, 10, 11, 12, 13, 14, 15, 16, 17, 18, 19, 20, 21, 22, 23, 24, 25, 26, 27, 28] (by decide +kernel) (by decide +kernel)
set_option maxRecDepth 20000 in
theorem gX12_leansOf_X12_allOf : GoodIn wsX12_leansOf (wsV RX12 46 RX12 yX12_allOf wsX12_allOf) := goodIn_app (goodIn_of _ (by decide +kernel)) ggX12_leansOf_X12_allOf
theorem dX12_leansOf_0 : decode cX12_leansOf 0 = .ok (.aload_n 0, 1) := by decide +kernel
theorem dX12_leansOf_1 : decode cX12_leansOf 1 = .ok (.sipush 154, 3) := by decide +kernel
theorem dX12_leansOf_4 : decode cX12_leansOf 4 = .ok (.iload_n 1, 1) := by decide +kernel
theorem dX12_leansOf_5 : decode cX12_leansOf 5 = .ok (.invokevirtual 46, 3) := by decide +kernel
theorem dX12_leansOf_8 : decode cX12_leansOf 8 = .ok (.istore_n 2, 1) := by decide +kernel
theorem dX12_leansOf_9 : decode cX12_leansOf 9 = .ok (.iload_n 2, 1) := by decide +kernel
theorem dX12_leansOf_10 : decode cX12_leansOf 10 = .ok (.ifCond .ne 8, 3) := by decide +kernel
theorem dX12_leansOf_13 : decode cX12_leansOf 13 = .ok (.bipush (-5), 2) := by decide +kernel
theorem dX12_leansOf_15 : decode cX12_leansOf 15 = .ok (.goto 17, 3) := by decide +kernel
theorem dX12_leansOf_18 : decode cX12_leansOf 18 = .ok (.sipush 1000, 3) := by decide +kernel
theorem dX12_leansOf_21 : decode cX12_leansOf 21 = .ok (.aload_n 0, 1) := by decide +kernel
theorem dX12_leansOf_22 : decode cX12_leansOf 22 = .ok (.sipush 190, 3) := by decide +kernel
theorem dX12_leansOf_25 : decode cX12_leansOf 25 = .ok (.iload_n 1, 1) := by decide +kernel
theorem dX12_leansOf_26 : decode cX12_leansOf 26 = .ok (.invokevirtual 46, 3) := by decide +kernel
theorem dX12_leansOf_29 : decode cX12_leansOf 29 = .ok (.imul, 1) := by decide +kernel
theorem dX12_leansOf_30 : decode cX12_leansOf 30 = .ok (.iload_n 2, 1) := by decide +kernel
theorem dX12_leansOf_31 : decode cX12_leansOf 31 = .ok (.idiv, 1) := by decide +kernel
theorem dX12_leansOf_32 : decode cX12_leansOf 32 = .ok (.ireturn, 1) := by decide +kernel
set_option maxRecDepth 20000 in
theorem ggX12_of_X12_isHand : GoodIn wsX12_of wsX12_isHand := goodIn_r _ [6, 1, 7, 8, 5, 9, 18, 19, 20, 21, 22, 23, 24, 25, 26, 27, 28, 29, 30, 31, 32, 33, 34, 35, 36, 37, 38, 39] (by decide +kernel) (by decide +kernel)
set_option maxRecDepth 20000 in
theorem gX12_of_X12_isHand : GoodIn wsX12_of (wsV RX12 40 RX12 yX12_isHand wsX12_isHand) := goodIn_app (goodIn_of _ (by decide +kernel)) ggX12_of_X12_isHand
set_option maxRecDepth 20000 in
theorem ggX12_of_X12_leansOf : GoodIn wsX12_of wsX12_leansOf := goodIn_r _ [13, 14, 15, 16, 5, 17, 1, 18, 19, 20, 21, 22, 23, 24, 25, 26, 27, 28, 29, 30, 31, 32, 33, 34, 35, 36, 37, 38, 39] (by decide +kernel) (by decide +kernel)
set_option maxRecDepth 20000 in
theorem gX12_of_X12_leansOf : GoodIn wsX12_of (wsV RX12 50 RX12 yX12_leansOf wsX12_leansOf) := goodIn_app (goodIn_of _ (by decide +kernel)) ggX12_of_X12_leansOf
set_option maxRecDepth 20000 in
theorem ggX12_of_X12_allOf : GoodIn wsX12_of wsX12_allOf := goodIn_r _ [17, 1, 18, 19, 20, 21, 22, 23, 24, 25, 26, 27, 28, 29, 30, 31, 32, 33, 34, 35, 36, 37, 38, 39] (by decide +kernel) (by decide +kernel)
set_option maxRecDepth 20000 in
theorem gX12_of_X12_allOf : GoodIn wsX12_of (wsV RX12 46 RX12 yX12_allOf wsX12_allOf) := goodIn_app (goodIn_of _ (by decide +kernel)) ggX12_of_X12_allOf
theorem dX12_of_0 : decode cX12_of 0 = .ok (.aload_n 0, 1) := by decide +kernel
theorem dX12_of_1 : decode cX12_of 1 = .ok (.iload_n 1, 1) := by decide +kernel
theorem dX12_of_2 : decode cX12_of 2 = .ok (.invokevirtual 40, 3) := by decide +kernel
theorem dX12_of_5 : decode cX12_of 5 = .ok (.ifCond .ne 5, 3) := by decide +kernel
theorem dX12_of_8 : decode cX12_of 8 = .ok (.iconst (-1), 1) := by decide +kernel
theorem dX12_of_9 : decode cX12_of 9 = .ok (.ireturn, 1) := by decide +kernel
theorem dX12_of_10 : decode cX12_of 10 = .ok (.iload_n 2, 1) := by decide +kernel
theorem dX12_of_11 : decode cX12_of 11 = .ok (.tableswitch 79 0 4 #[33, 44, 55, 61, 70], 33) := by decide +kernel
theorem dX12_of_44 : decode cX12_of 44 = .ok (.aload_n 0, 1) := by decide +kernel
theorem dX12_of_45 : decode cX12_of 45 = .ok (.getfield 9, 3) := by decide +kernel
theorem dX12_of_48 : decode cX12_of 48 = .ok (.sipush 142, 3) := by decide +kernel
theorem dX12_of_51 : decode cX12_of 51 = .ok (.iload_n 1, 1) := by decide +kernel
theorem dX12_of_52 : decode cX12_of 52 = .ok (.iadd, 1) := by decide +kernel
theorem dX12_of_53 : decode cX12_of 53 = .ok (.iaload, 1) := by decide +kernel
theorem dX12_of_54 : decode cX12_of 54 = .ok (.ireturn, 1) := by decide +kernel
theorem dX12_of_55 : decode cX12_of 55 = .ok (.aload_n 0, 1) := by decide +kernel
theorem dX12_of_56 : decode cX12_of 56 = .ok (.getfield 9, 3) := by decide +kernel
theorem dX12_of_59 : decode cX12_of 59 = .ok (.sipush 148, 3) := by decide +kernel
theorem dX12_of_62 : decode cX12_of 62 = .ok (.iload_n 1, 1) := by decide +kernel
theorem dX12_of_63 : decode cX12_of 63 = .ok (.iadd, 1) := by decide +kernel
theorem dX12_of_64 : decode cX12_of 64 = .ok (.iaload, 1) := by decide +kernel
theorem dX12_of_65 : decode cX12_of 65 = .ok (.ireturn, 1) := by decide +kernel
theorem dX12_of_66 : decode cX12_of 66 = .ok (.aload_n 0, 1) := by decide +kernel
theorem dX12_of_67 : decode cX12_of 67 = .ok (.iload_n 1, 1) := by decide +kernel
theorem dX12_of_68 : decode cX12_of 68 = .ok (.invokevirtual 50, 3) := by decide +kernel
theorem dX12_of_71 : decode cX12_of 71 = .ok (.ireturn, 1) := by decide +kernel
theorem dX12_of_72 : decode cX12_of 72 = .ok (.aload_n 0, 1) := by decide +kernel
theorem dX12_of_73 : decode cX12_of 73 = .ok (.sipush 154, 3) := by decide +kernel
theorem dX12_of_76 : decode cX12_of 76 = .ok (.iload_n 1, 1) := by decide +kernel
theorem dX12_of_77 : decode cX12_of 77 = .ok (.invokevirtual 46, 3) := by decide +kernel
theorem dX12_of_80 : decode cX12_of 80 = .ok (.ireturn, 1) := by decide +kernel
theorem dX12_of_81 : decode cX12_of 81 = .ok (.aload_n 0, 1) := by decide +kernel
theorem dX12_of_82 : decode cX12_of 82 = .ok (.sipush 190, 3) := by decide +kernel
theorem dX12_of_85 : decode cX12_of 85 = .ok (.iload_n 1, 1) := by decide +kernel
theorem dX12_of_86 : decode cX12_of 86 = .ok (.invokevirtual 46, 3) := by decide +kernel
theorem dX12_of_89 : decode cX12_of 89 = .ok (.ireturn, 1) := by decide +kernel
theorem dX12_of_90 : decode cX12_of 90 = .ok (.iconst (-1), 1) := by decide +kernel
theorem dX12_of_91 : decode cX12_of 91 = .ok (.ireturn, 1) := by decide +kernel
set_option maxRecDepth 20000 in
theorem ggX12_counts_X12_isHand : GoodIn wsX12_counts wsX12_isHand := goodIn_r _ [6, 1, 7, 8, 5, 9, 14, 15, 16, 17, 18, 19, 20, 21, 22, 23, 24, 25, 26, 27, 28, 29, 30, 31, 32, 33, 34, 35] (by decide +kernel) (by decide +kernel)
set_option maxRecDepth 20000 in
theorem gX12_counts_X12_isHand : GoodIn wsX12_counts (wsV RX12 40 RX12 yX12_isHand wsX12_isHand) := goodIn_app (goodIn_of _ (by decide +kernel)) ggX12_counts_X12_isHand
set_option maxRecDepth 20000 in
theorem ggX12_counts_X12_isCoin : GoodIn wsX12_counts wsX12_isCoin := goodIn_r _ [13, 1, 7, 8, 5, 9, 14, 15, 16, 17, 18, 19, 20, 21, 22, 23, 24, 25, 26, 27, 28, 29, 30, 31, 32, 33, 34, 35] (by decide +kernel) (by decide +kernel)
set_option maxRecDepth 20000 in
theorem gX12_counts_X12_isCoin : GoodIn wsX12_counts (wsV RX12 43 RX12 yX12_isCoin wsX12_isCoin) := goodIn_app (goodIn_of _ (by decide +kernel)) ggX12_counts_X12_isCoin
set_option maxRecDepth 20000 in
theorem ggX12_counts_X12_in : GoodIn wsX12_counts wsX12_in := goodIn_r _ [9] (by decide +kernel) (by decide +kernel)
set_option maxRecDepth 20000 in
theorem gX12_counts_X12_in : GoodIn wsX12_counts (va_wsS RX12 32 yX12_in wsX12_in) := goodIn_app (goodIn_of _ (by decide +kernel)) ggX12_counts_X12_in
theorem dX12_counts_0 : decode cX12_counts 0 = .ok (.aload_n 0, 1) := by decide +kernel
theorem dX12_counts_1 : decode cX12_counts 1 = .ok (.iload_n 1, 1) := by decide +kernel
theorem dX12_counts_2 : decode cX12_counts 2 = .ok (.invokevirtual 40, 3) := by decide +kernel
theorem dX12_counts_5 : decode cX12_counts 5 = .ok (.ifCond .eq 11, 3) := by decide +kernel
theorem dX12_counts_8 : decode cX12_counts 8 = .ok (.aload_n 0, 1) := by decide +kernel
theorem dX12_counts_9 : decode cX12_counts 9 = .ok (.iload_n 2, 1) := by decide +kernel
theorem dX12_counts_10 : decode cX12_counts 10 = .ok (.invokevirtual 43, 3) := by decide +kernel
theorem dX12_counts_13 : decode cX12_counts 13 = .ok (.ifCond .ne 5, 3) := by decide +kernel
theorem dX12_counts_16 : decode cX12_counts 16 = .ok (.iconst (-1), 1) := by decide +kernel
theorem dX12_counts_17 : decode cX12_counts 17 = .ok (.ireturn, 1) := by decide +kernel
theorem dX12_counts_18 : decode cX12_counts 18 = .ok (.iload_n 3, 1) := by decide +kernel
theorem dX12_counts_19 : decode cX12_counts 19 = .ok (.iconst 0, 1) := by decide +kernel
theorem dX12_counts_20 : decode cX12_counts 20 = .ok (.sipush 999, 3) := by decide +kernel
theorem dX12_counts_23 : decode cX12_counts 23 = .ok (.invokestatic 32, 3) := by decide +kernel
theorem dX12_counts_26 : decode cX12_counts 26 = .ok (.ifCond .eq 13, 3) := by decide +kernel
theorem dX12_counts_29 : decode cX12_counts 29 = .ok (.iload 4, 2) := by decide +kernel
theorem dX12_counts_31 : decode cX12_counts 31 = .ok (.iconst 0, 1) := by decide +kernel
theorem dX12_counts_32 : decode cX12_counts 32 = .ok (.iload_n 3, 1) := by decide +kernel
theorem dX12_counts_33 : decode cX12_counts 33 = .ok (.invokestatic 32, 3) := by decide +kernel
theorem dX12_counts_36 : decode cX12_counts 36 = .ok (.ifCond .ne 6, 3) := by decide +kernel
theorem dX12_counts_39 : decode cX12_counts 39 = .ok (.bipush (-2), 2) := by decide +kernel
theorem dX12_counts_41 : decode cX12_counts 41 = .ok (.ireturn, 1) := by decide +kernel
theorem dX12_counts_42 : decode cX12_counts 42 = .ok (.aload_n 0, 1) := by decide +kernel
theorem dX12_counts_43 : decode cX12_counts 43 = .ok (.getfield 9, 3) := by decide +kernel
theorem dX12_counts_46 : decode cX12_counts 46 = .ok (.sipush 154, 3) := by decide +kernel
theorem dX12_counts_49 : decode cX12_counts 49 = .ok (.bipush 6, 2) := by decide +kernel
theorem dX12_counts_51 : decode cX12_counts 51 = .ok (.iload_n 1, 1) := by decide +kernel
theorem dX12_counts_52 : decode cX12_counts 52 = .ok (.imul, 1) := by decide +kernel
theorem dX12_counts_53 : decode cX12_counts 53 = .ok (.iadd, 1) := by decide +kernel
theorem dX12_counts_54 : decode cX12_counts 54 = .ok (.iload_n 2, 1) := by decide +kernel
theorem dX12_counts_55 : decode cX12_counts 55 = .ok (.iadd, 1) := by decide +kernel
theorem dX12_counts_56 : decode cX12_counts 56 = .ok (.iaload, 1) := by decide +kernel
theorem dX12_counts_57 : decode cX12_counts 57 = .ok (.istore 5, 2) := by decide +kernel
theorem dX12_counts_59 : decode cX12_counts 59 = .ok (.aload_n 0, 1) := by decide +kernel
theorem dX12_counts_60 : decode cX12_counts 60 = .ok (.getfield 9, 3) := by decide +kernel
theorem dX12_counts_63 : decode cX12_counts 63 = .ok (.sipush 154, 3) := by decide +kernel
theorem dX12_counts_66 : decode cX12_counts 66 = .ok (.bipush 6, 2) := by decide +kernel
theorem dX12_counts_68 : decode cX12_counts 68 = .ok (.iload_n 1, 1) := by decide +kernel
theorem dX12_counts_69 : decode cX12_counts 69 = .ok (.imul, 1) := by decide +kernel
theorem dX12_counts_70 : decode cX12_counts 70 = .ok (.iadd, 1) := by decide +kernel
theorem dX12_counts_71 : decode cX12_counts 71 = .ok (.iload_n 2, 1) := by decide +kernel
theorem dX12_counts_72 : decode cX12_counts 72 = .ok (.iadd, 1) := by decide +kernel
theorem dX12_counts_73 : decode cX12_counts 73 = .ok (.iload_n 3, 1) := by decide +kernel
theorem dX12_counts_74 : decode cX12_counts 74 = .ok (.iastore, 1) := by decide +kernel
theorem dX12_counts_75 : decode cX12_counts 75 = .ok (.aload_n 0, 1) := by decide +kernel
theorem dX12_counts_76 : decode cX12_counts 76 = .ok (.getfield 9, 3) := by decide +kernel
theorem dX12_counts_79 : decode cX12_counts 79 = .ok (.sipush 190, 3) := by decide +kernel
theorem dX12_counts_82 : decode cX12_counts 82 = .ok (.bipush 6, 2) := by decide +kernel
theorem dX12_counts_84 : decode cX12_counts 84 = .ok (.iload_n 1, 1) := by decide +kernel
theorem dX12_counts_85 : decode cX12_counts 85 = .ok (.imul, 1) := by decide +kernel
theorem dX12_counts_86 : decode cX12_counts 86 = .ok (.iadd, 1) := by decide +kernel
theorem dX12_counts_87 : decode cX12_counts 87 = .ok (.iload_n 2, 1) := by decide +kernel
theorem dX12_counts_88 : decode cX12_counts 88 = .ok (.iadd, 1) := by decide +kernel
theorem dX12_counts_89 : decode cX12_counts 89 = .ok (.iload 4, 2) := by decide +kernel
theorem dX12_counts_91 : decode cX12_counts 91 = .ok (.iastore, 1) := by decide +kernel
theorem dX12_counts_92 : decode cX12_counts 92 = .ok (.iload 5, 2) := by decide +kernel
theorem dX12_counts_94 : decode cX12_counts 94 = .ok (.ireturn, 1) := by decide +kernel
set_option maxRecDepth 20000 in
theorem ggX12_feed_X12_in : GoodIn wsX12_feed wsX12_in := goodIn_r _ [6] (by decide +kernel) (by decide +kernel)
set_option maxRecDepth 20000 in
theorem gX12_feed_X12_in : GoodIn wsX12_feed (va_wsS RX12 32 yX12_in wsX12_in) := goodIn_app (goodIn_of _ (by decide +kernel)) ggX12_feed_X12_in
theorem dX12_feed_0 : decode cX12_feed 0 = .ok (.iload_n 3, 1) := by decide +kernel
theorem dX12_feed_1 : decode cX12_feed 1 = .ok (.iconst 1, 1) := by decide +kernel
theorem dX12_feed_2 : decode cX12_feed 2 = .ok (.bipush 8, 2) := by decide +kernel
theorem dX12_feed_4 : decode cX12_feed 4 = .ok (.invokestatic 32, 3) := by decide +kernel
theorem dX12_feed_7 : decode cX12_feed 7 = .ok (.ifCond .ne 6, 3) := by decide +kernel
theorem dX12_feed_10 : decode cX12_feed 10 = .ok (.bipush (-2), 2) := by decide +kernel
theorem dX12_feed_12 : decode cX12_feed 12 = .ok (.ireturn, 1) := by decide +kernel
theorem dX12_feed_13 : decode cX12_feed 13 = .ok (.aload_n 0, 1) := by decide +kernel
theorem dX12_feed_14 : decode cX12_feed 14 = .ok (.getfield 9, 3) := by decide +kernel
theorem dX12_feed_17 : decode cX12_feed 17 = .ok (.iconst 4, 1) := by decide +kernel
theorem dX12_feed_18 : decode cX12_feed 18 = .ok (.iaload, 1) := by decide +kernel
theorem dX12_feed_19 : decode cX12_feed 19 = .ok (.iload_n 3, 1) := by decide +kernel
theorem dX12_feed_20 : decode cX12_feed 20 = .ok (.iadd, 1) := by decide +kernel
theorem dX12_feed_21 : decode cX12_feed 21 = .ok (.bipush 120, 2) := by decide +kernel
theorem dX12_feed_23 : decode cX12_feed 23 = .ok (.if_icmp .le 6, 3) := by decide +kernel
theorem dX12_feed_26 : decode cX12_feed 26 = .ok (.bipush (-4), 2) := by decide +kernel
theorem dX12_feed_28 : decode cX12_feed 28 = .ok (.ireturn, 1) := by decide +kernel
theorem dX12_feed_29 : decode cX12_feed 29 = .ok (.iload_n 3, 1) := by decide +kernel
theorem dX12_feed_30 : decode cX12_feed 30 = .ok (.iconst 1, 1) := by decide +kernel
theorem dX12_feed_31 : decode cX12_feed 31 = .ok (.isub, 1) := by decide +kernel
theorem dX12_feed_32 : decode cX12_feed 32 = .ok (.istore 4, 2) := by decide +kernel
theorem dX12_feed_34 : decode cX12_feed 34 = .ok (.iload 4, 2) := by decide +kernel
theorem dX12_feed_36 : decode cX12_feed 36 = .ok (.ifCond .lt 45, 3) := by decide +kernel
theorem dX12_feed_39 : decode cX12_feed 39 = .ok (.aload_n 0, 1) := by decide +kernel
theorem dX12_feed_40 : decode cX12_feed 40 = .ok (.getfield 9, 3) := by decide +kernel
theorem dX12_feed_43 : decode cX12_feed 43 = .ok (.bipush 10, 2) := by decide +kernel
theorem dX12_feed_45 : decode cX12_feed 45 = .ok (.aload_n 0, 1) := by decide +kernel
theorem dX12_feed_46 : decode cX12_feed 46 = .ok (.getfield 9, 3) := by decide +kernel
theorem dX12_feed_49 : decode cX12_feed 49 = .ok (.iconst 4, 1) := by decide +kernel
theorem dX12_feed_50 : decode cX12_feed 50 = .ok (.iaload, 1) := by decide +kernel
theorem dX12_feed_51 : decode cX12_feed 51 = .ok (.iadd, 1) := by decide +kernel
theorem dX12_feed_52 : decode cX12_feed 52 = .ok (.lload_n 1, 1) := by decide +kernel
theorem dX12_feed_53 : decode cX12_feed 53 = .ok (.bipush 8, 2) := by decide +kernel
theorem dX12_feed_55 : decode cX12_feed 55 = .ok (.iload 4, 2) := by decide +kernel
theorem dX12_feed_57 : decode cX12_feed 57 = .ok (.imul, 1) := by decide +kernel
theorem dX12_feed_58 : decode cX12_feed 58 = .ok (.lshr, 1) := by decide +kernel
theorem dX12_feed_59 : decode cX12_feed 59 = .ok (.ldc2_w 54, 3) := by decide +kernel
theorem dX12_feed_62 : decode cX12_feed 62 = .ok (.land, 1) := by decide +kernel
theorem dX12_feed_63 : decode cX12_feed 63 = .ok (.l2i, 1) := by decide +kernel
theorem dX12_feed_64 : decode cX12_feed 64 = .ok (.iastore, 1) := by decide +kernel
theorem dX12_feed_65 : decode cX12_feed 65 = .ok (.aload_n 0, 1) := by decide +kernel
theorem dX12_feed_66 : decode cX12_feed 66 = .ok (.getfield 9, 3) := by decide +kernel
theorem dX12_feed_69 : decode cX12_feed 69 = .ok (.iconst 4, 1) := by decide +kernel
theorem dX12_feed_70 : decode cX12_feed 70 = .ok (.dup2, 1) := by decide +kernel
theorem dX12_feed_71 : decode cX12_feed 71 = .ok (.iaload, 1) := by decide +kernel
theorem dX12_feed_72 : decode cX12_feed 72 = .ok (.iconst 1, 1) := by decide +kernel
theorem dX12_feed_73 : decode cX12_feed 73 = .ok (.iadd, 1) := by decide +kernel
theorem dX12_feed_74 : decode cX12_feed 74 = .ok (.iastore, 1) := by decide +kernel
theorem dX12_feed_75 : decode cX12_feed 75 = .ok (.iinc 4 (-1), 3) := by decide +kernel
theorem dX12_feed_78 : decode cX12_feed 78 = .ok (.goto (-44), 3) := by decide +kernel
theorem dX12_feed_81 : decode cX12_feed 81 = .ok (.aload_n 0, 1) := by decide +kernel
theorem dX12_feed_82 : decode cX12_feed 82 = .ok (.getfield 9, 3) := by decide +kernel
theorem dX12_feed_85 : decode cX12_feed 85 = .ok (.iconst 4, 1) := by decide +kernel
theorem dX12_feed_86 : decode cX12_feed 86 = .ok (.iaload, 1) := by decide +kernel
theorem dX12_feed_87 : decode cX12_feed 87 = .ok (.ireturn, 1) := by decide +kernel
theorem dX12_here_0 : decode cX12_here 0 = .ok (.aload_n 0, 1) := by decide +kernel
theorem dX12_here_1 : decode cX12_here 1 = .ok (.getfield 56, 3) := by decide +kernel
theorem dX12_here_4 : decode cX12_here 4 = .ok (.aload_n 0, 1) := by decide +kernel
theorem dX12_here_5 : decode cX12_here 5 = .ok (.getfield 59, 3) := by decide +kernel
theorem dX12_here_8 : decode cX12_here 8 = .ok (.if_icmp .ge 18, 3) := by decide +kernel
theorem dX12_here_11 : decode cX12_here 11 = .ok (.aload_n 0, 1) := by decide +kernel
theorem dX12_here_12 : decode cX12_here 12 = .ok (.getfield 9, 3) := by decide +kernel
theorem dX12_here_15 : decode cX12_here 15 = .ok (.bipush 10, 2) := by decide +kernel
theorem dX12_here_17 : decode cX12_here 17 = .ok (.aload_n 0, 1) := by decide +kernel
theorem dX12_here_18 : decode cX12_here 18 = .ok (.getfield 56, 3) := by decide +kernel
theorem dX12_here_21 : decode cX12_here 21 = .ok (.iadd, 1) := by decide +kernel
theorem dX12_here_22 : decode cX12_here 22 = .ok (.iaload, 1) := by decide +kernel
theorem dX12_here_23 : decode cX12_here 23 = .ok (.goto 4, 3) := by decide +kernel
theorem dX12_here_26 : decode cX12_here 26 = .ok (.iconst (-1), 1) := by decide +kernel
theorem dX12_here_27 : decode cX12_here 27 = .ok (.ireturn, 1) := by decide +kernel
set_option maxRecDepth 20000 in
theorem ggX12_must_X12_here : GoodIn wsX12_must wsX12_here := goodIn_r _ [7, 2, 8, 9, 10, 11, 12, 13, 14, 15, 16, 17, 18, 19, 20, 21, 22, 23, 24, 25, 26, 27, 28, 29, 30, 31] (by decide +kernel) (by decide +kernel)
set_option maxRecDepth 20000 in
theorem gX12_must_X12_here : GoodIn wsX12_must (wsV RX12 66 RX12 yX12_here wsX12_here) := goodIn_app (goodIn_of _ (by decide +kernel)) ggX12_must_X12_here
theorem dX12_must_0 : decode cX12_must 0 = .ok (.aload_n 0, 1) := by decide +kernel
theorem dX12_must_1 : decode cX12_must 1 = .ok (.aload_n 0, 1) := by decide +kernel
theorem dX12_must_2 : decode cX12_must 2 = .ok (.getfield 62, 3) := by decide +kernel
theorem dX12_must_5 : decode cX12_must 5 = .ok (.ifCond .ne 11, 3) := by decide +kernel
theorem dX12_must_8 : decode cX12_must 8 = .ok (.aload_n 0, 1) := by decide +kernel
theorem dX12_must_9 : decode cX12_must 9 = .ok (.invokevirtual 66, 3) := by decide +kernel
theorem dX12_must_12 : decode cX12_must 12 = .ok (.iload_n 1, 1) := by decide +kernel
theorem dX12_must_13 : decode cX12_must 13 = .ok (.if_icmp .eq 7, 3) := by decide +kernel
theorem dX12_must_16 : decode cX12_must 16 = .ok (.iconst 1, 1) := by decide +kernel
theorem dX12_must_17 : decode cX12_must 17 = .ok (.goto 4, 3) := by decide +kernel
theorem dX12_must_20 : decode cX12_must 20 = .ok (.iconst 0, 1) := by decide +kernel
theorem dX12_must_21 : decode cX12_must 21 = .ok (.putfield 62, 3) := by decide +kernel
theorem dX12_must_24 : decode cX12_must 24 = .ok (.aload_n 0, 1) := by decide +kernel
theorem dX12_must_25 : decode cX12_must 25 = .ok (.dup, 1) := by decide +kernel
theorem dX12_must_26 : decode cX12_must 26 = .ok (.getfield 56, 3) := by decide +kernel
theorem dX12_must_29 : decode cX12_must 29 = .ok (.aload_n 0, 1) := by decide +kernel
theorem dX12_must_30 : decode cX12_must 30 = .ok (.getfield 62, 3) := by decide +kernel
theorem dX12_must_33 : decode cX12_must 33 = .ok (.ifCond .eq 7, 3) := by decide +kernel
theorem dX12_must_36 : decode cX12_must 36 = .ok (.iconst 0, 1) := by decide +kernel
theorem dX12_must_37 : decode cX12_must 37 = .ok (.goto 4, 3) := by decide +kernel
theorem dX12_must_40 : decode cX12_must 40 = .ok (.iconst 1, 1) := by decide +kernel
theorem dX12_must_41 : decode cX12_must 41 = .ok (.iadd, 1) := by decide +kernel
theorem dX12_must_42 : decode cX12_must 42 = .ok (.putfield 56, 3) := by decide +kernel
theorem dX12_must_45 : decode cX12_must 45 = .ok (.return_, 1) := by decide +kernel
set_option maxRecDepth 20000 in
theorem ggX12_spells_J0_length_8abf5 : GoodIn wsX12_spells wsJ0_length_8abf5 := goodIn_r _ [5, 6, 7, 8, 9, 4, 10, 11, 12] (by decide +kernel) (by decide +kernel)
set_option maxRecDepth 20000 in
theorem gX12_spells_J0_length_8abf5 : GoodIn wsX12_spells (wsV RX12 70 RJ0 yJ0_length_8abf5 wsJ0_length_8abf5) := goodIn_app (goodIn_of _ (by decide +kernel)) ggX12_spells_J0_length_8abf5
set_option maxRecDepth 20000 in
theorem ggX12_spells_J0_charAt_5068e : GoodIn wsX12_spells wsJ0_charAt_5068e := goodIn_r _ [16, 6, 17, 18, 19, 4, 20, 11, 12, 21, 22, 23, 24, 25, 26, 27, 28, 29, 30, 31, 32, 33, 34, 35, 36, 37, 38, 39, 40, 41, 42, 43, 44, 45, 46, 47, 48, 49] (by decide +kernel) (by decide +kernel)
set_option maxRecDepth 20000 in
theorem gX12_spells_J0_charAt_5068e : GoodIn wsX12_spells (wsV RX12 75 RJ0 yJ0_charAt_5068e wsJ0_charAt_5068e) := goodIn_app (goodIn_of _ (by decide +kernel)) ggX12_spells_J0_charAt_5068e
set_option maxRecDepth 20000 in
theorem ggX12_spells_X12_must : GoodIn wsX12_spells wsX12_must := goodIn_r _ [54, 55, 56, 57, 58, 59, 53, 60, 61, 62, 63, 64, 65, 66, 67, 68, 69, 70, 71, 72, 73, 74, 75, 76, 77, 78, 79, 80, 81, 82, 83, 84] (by decide +kernel) (by decide +kernel)
set_option maxRecDepth 20000 in
theorem gX12_spells_X12_must : GoodIn wsX12_spells (wsV RX12 79 RX12 yX12_must wsX12_must) := goodIn_app (goodIn_of _ (by decide +kernel)) ggX12_spells_X12_must
theorem dX12_spells_0 : decode cX12_spells 0 = .ok (.iconst 0, 1) := by decide +kernel
theorem dX12_spells_1 : decode cX12_spells 1 = .ok (.istore_n 2, 1) := by decide +kernel
theorem dX12_spells_2 : decode cX12_spells 2 = .ok (.iload_n 2, 1) := by decide +kernel
theorem dX12_spells_3 : decode cX12_spells 3 = .ok (.aload_n 1, 1) := by decide +kernel
theorem dX12_spells_4 : decode cX12_spells 4 = .ok (.invokevirtual 70, 3) := by decide +kernel
theorem dX12_spells_7 : decode cX12_spells 7 = .ok (.if_icmp .ge 18, 3) := by decide +kernel
theorem dX12_spells_10 : decode cX12_spells 10 = .ok (.aload_n 0, 1) := by decide +kernel
theorem dX12_spells_11 : decode cX12_spells 11 = .ok (.aload_n 1, 1) := by decide +kernel
theorem dX12_spells_12 : decode cX12_spells 12 = .ok (.iload_n 2, 1) := by decide +kernel
theorem dX12_spells_13 : decode cX12_spells 13 = .ok (.invokevirtual 75, 3) := by decide +kernel
theorem dX12_spells_16 : decode cX12_spells 16 = .ok (.invokevirtual 79, 3) := by decide +kernel
theorem dX12_spells_19 : decode cX12_spells 19 = .ok (.iinc 2 1, 3) := by decide +kernel
theorem dX12_spells_22 : decode cX12_spells 22 = .ok (.goto (-20), 3) := by decide +kernel
theorem dX12_spells_25 : decode cX12_spells 25 = .ok (.return_, 1) := by decide +kernel
set_option maxRecDepth 20000 in
theorem ggX12_figures_X12_here : GoodIn wsX12_figures wsX12_here := goodIn_r _ [7, 2, 8, 9, 13, 14, 15, 16, 17, 18, 19, 20, 21, 22, 23, 24, 25, 26, 27, 28, 29, 30, 31, 32, 33, 34] (by decide +kernel) (by decide +kernel)
set_option maxRecDepth 20000 in
theorem gX12_figures_X12_here : GoodIn wsX12_figures (wsV RX12 66 RX12 yX12_here wsX12_here) := goodIn_app (goodIn_of _ (by decide +kernel)) ggX12_figures_X12_here
set_option maxRecDepth 20000 in
theorem ggX12_figures_X12_in : GoodIn wsX12_figures wsX12_in := goodIn_r _ [12] (by decide +kernel) (by decide +kernel)
set_option maxRecDepth 20000 in
theorem gX12_figures_X12_in : GoodIn wsX12_figures (va_wsS RX12 32 yX12_in wsX12_in) := goodIn_app (goodIn_of _ (by decide +kernel)) ggX12_figures_X12_in
theorem dX12_figures_0 : decode cX12_figures 0 = .ok (.aload_n 0, 1) := by decide +kernel
theorem dX12_figures_1 : decode cX12_figures 1 = .ok (.aload_n 0, 1) := by decide +kernel
theorem dX12_figures_2 : decode cX12_figures 2 = .ok (.getfield 62, 3) := by decide +kernel
theorem dX12_figures_5 : decode cX12_figures 5 = .ok (.ifCond .ne 17, 3) := by decide +kernel
theorem dX12_figures_8 : decode cX12_figures 8 = .ok (.aload_n 0, 1) := by decide +kernel
theorem dX12_figures_9 : decode cX12_figures 9 = .ok (.invokevirtual 66, 3) := by decide +kernel
theorem dX12_figures_12 : decode cX12_figures 12 = .ok (.bipush 48, 2) := by decide +kernel
theorem dX12_figures_14 : decode cX12_figures 14 = .ok (.bipush 57, 2) := by decide +kernel
theorem dX12_figures_16 : decode cX12_figures 16 = .ok (.invokestatic 32, 3) := by decide +kernel
theorem dX12_figures_19 : decode cX12_figures 19 = .ok (.ifCond .ne 7, 3) := by decide +kernel
theorem dX12_figures_22 : decode cX12_figures 22 = .ok (.iconst 1, 1) := by decide +kernel
theorem dX12_figures_23 : decode cX12_figures 23 = .ok (.goto 4, 3) := by decide +kernel
theorem dX12_figures_26 : decode cX12_figures 26 = .ok (.iconst 0, 1) := by decide +kernel
theorem dX12_figures_27 : decode cX12_figures 27 = .ok (.putfield 62, 3) := by decide +kernel
theorem dX12_figures_30 : decode cX12_figures 30 = .ok (.iconst 0, 1) := by decide +kernel
theorem dX12_figures_31 : decode cX12_figures 31 = .ok (.istore_n 1, 1) := by decide +kernel
theorem dX12_figures_32 : decode cX12_figures 32 = .ok (.iconst 0, 1) := by decide +kernel
theorem dX12_figures_33 : decode cX12_figures 33 = .ok (.istore_n 2, 1) := by decide +kernel
theorem dX12_figures_34 : decode cX12_figures 34 = .ok (.iload_n 2, 1) := by decide +kernel
theorem dX12_figures_35 : decode cX12_figures 35 = .ok (.iconst 2, 1) := by decide +kernel
theorem dX12_figures_36 : decode cX12_figures 36 = .ok (.if_icmp .ge 61, 3) := by decide +kernel
theorem dX12_figures_39 : decode cX12_figures 39 = .ok (.aload_n 0, 1) := by decide +kernel
theorem dX12_figures_40 : decode cX12_figures 40 = .ok (.getfield 62, 3) := by decide +kernel
theorem dX12_figures_43 : decode cX12_figures 43 = .ok (.ifCond .ne 54, 3) := by decide +kernel
theorem dX12_figures_46 : decode cX12_figures 46 = .ok (.aload_n 0, 1) := by decide +kernel
theorem dX12_figures_47 : decode cX12_figures 47 = .ok (.invokevirtual 66, 3) := by decide +kernel
theorem dX12_figures_50 : decode cX12_figures 50 = .ok (.bipush 48, 2) := by decide +kernel
theorem dX12_figures_52 : decode cX12_figures 52 = .ok (.bipush 57, 2) := by decide +kernel
theorem dX12_figures_54 : decode cX12_figures 54 = .ok (.invokestatic 32, 3) := by decide +kernel
theorem dX12_figures_57 : decode cX12_figures 57 = .ok (.ifCond .eq 40, 3) := by decide +kernel
theorem dX12_figures_60 : decode cX12_figures 60 = .ok (.iload_n 2, 1) := by decide +kernel
theorem dX12_figures_61 : decode cX12_figures 61 = .ok (.ifCond .eq 7, 3) := by decide +kernel
theorem dX12_figures_64 : decode cX12_figures 64 = .ok (.iload_n 1, 1) := by decide +kernel
theorem dX12_figures_65 : decode cX12_figures 65 = .ok (.ifCond .le 32, 3) := by decide +kernel
theorem dX12_figures_68 : decode cX12_figures 68 = .ok (.bipush 10, 2) := by decide +kernel
theorem dX12_figures_70 : decode cX12_figures 70 = .ok (.iload_n 1, 1) := by decide +kernel
theorem dX12_figures_71 : decode cX12_figures 71 = .ok (.imul, 1) := by decide +kernel
theorem dX12_figures_72 : decode cX12_figures 72 = .ok (.aload_n 0, 1) := by decide +kernel
theorem dX12_figures_73 : decode cX12_figures 73 = .ok (.invokevirtual 66, 3) := by decide +kernel
theorem dX12_figures_76 : decode cX12_figures 76 = .ok (.iadd, 1) := by decide +kernel
theorem dX12_figures_77 : decode cX12_figures 77 = .ok (.bipush 48, 2) := by decide +kernel
theorem dX12_figures_79 : decode cX12_figures 79 = .ok (.isub, 1) := by decide +kernel
theorem dX12_figures_80 : decode cX12_figures 80 = .ok (.istore_n 1, 1) := by decide +kernel
theorem dX12_figures_81 : decode cX12_figures 81 = .ok (.aload_n 0, 1) := by decide +kernel
theorem dX12_figures_82 : decode cX12_figures 82 = .ok (.dup, 1) := by decide +kernel
theorem dX12_figures_83 : decode cX12_figures 83 = .ok (.getfield 56, 3) := by decide +kernel
theorem dX12_figures_86 : decode cX12_figures 86 = .ok (.iconst 1, 1) := by decide +kernel
theorem dX12_figures_87 : decode cX12_figures 87 = .ok (.iadd, 1) := by decide +kernel
theorem dX12_figures_88 : decode cX12_figures 88 = .ok (.putfield 56, 3) := by decide +kernel
theorem dX12_figures_91 : decode cX12_figures 91 = .ok (.iinc 2 1, 3) := by decide +kernel
theorem dX12_figures_94 : decode cX12_figures 94 = .ok (.goto (-60), 3) := by decide +kernel
theorem dX12_figures_97 : decode cX12_figures 97 = .ok (.iload_n 1, 1) := by decide +kernel
theorem dX12_figures_98 : decode cX12_figures 98 = .ok (.ireturn, 1) := by decide +kernel
set_option maxRecDepth 20000 in
theorem ggX12_among_J0_length_8abf5 : GoodIn wsX12_among wsJ0_length_8abf5 := goodIn_r _ [6, 7, 8, 9, 10, 5, 11, 12, 13] (by decide +kernel) (by decide +kernel)
set_option maxRecDepth 20000 in
theorem gX12_among_J0_length_8abf5 : GoodIn wsX12_among (wsV RX12 70 RJ0 yJ0_length_8abf5 wsJ0_length_8abf5) := goodIn_app (goodIn_of _ (by decide +kernel)) ggX12_among_J0_length_8abf5
set_option maxRecDepth 20000 in
theorem ggX12_among_X12_here : GoodIn wsX12_among wsX12_here := goodIn_r _ [18, 1, 19, 20, 58, 59, 60, 61, 62, 63, 64, 65, 66, 67, 68, 69, 70, 71, 72, 73, 74, 75, 76, 77, 78, 79] (by decide +kernel) (by decide +kernel)
set_option maxRecDepth 20000 in
theorem gX12_among_X12_here : GoodIn wsX12_among (wsV RX12 66 RX12 yX12_here wsX12_here) := goodIn_app (goodIn_of _ (by decide +kernel)) ggX12_among_X12_here
set_option maxRecDepth 20000 in
theorem ggX12_among_J0_charAt_5068e : GoodIn wsX12_among wsJ0_charAt_5068e := goodIn_r _ [24, 7, 25, 26, 27, 5, 28, 12, 13, 29, 30, 31, 32, 33, 34, 35, 36, 37, 38, 39, 40, 41, 42, 43, 44, 45, 46, 47, 48, 49, 50, 51, 52, 53, 54, 55, 56, 57] (by decide +kernel) (by decide +kernel)
set_option maxRecDepth 20000 in
theorem gX12_among_J0_charAt_5068e : GoodIn wsX12_among (wsV RX12 75 RJ0 yJ0_charAt_5068e wsJ0_charAt_5068e) := goodIn_app (goodIn_of _ (by decide +kernel)) ggX12_among_J0_charAt_5068e
theorem dX12_among_0 : decode cX12_among 0 = .ok (.iconst 0, 1) := by decide +kernel
theorem dX12_among_1 : decode cX12_among 1 = .ok (.istore_n 2, 1) := by decide +kernel
theorem dX12_among_2 : decode cX12_among 2 = .ok (.iload_n 2, 1) := by decide +kernel
theorem dX12_among_3 : decode cX12_among 3 = .ok (.aload_n 1, 1) := by decide +kernel
theorem dX12_among_4 : decode cX12_among 4 = .ok (.invokevirtual 70, 3) := by decide +kernel
theorem dX12_among_7 : decode cX12_among 7 = .ok (.if_icmp .ge 33, 3) := by decide +kernel
theorem dX12_among_10 : decode cX12_among 10 = .ok (.aload_n 0, 1) := by decide +kernel
theorem dX12_among_11 : decode cX12_among 11 = .ok (.invokevirtual 66, 3) := by decide +kernel
theorem dX12_among_14 : decode cX12_among 14 = .ok (.aload_n 1, 1) := by decide +kernel
theorem dX12_among_15 : decode cX12_among 15 = .ok (.iload_n 2, 1) := by decide +kernel
theorem dX12_among_16 : decode cX12_among 16 = .ok (.invokevirtual 75, 3) := by decide +kernel
theorem dX12_among_19 : decode cX12_among 19 = .ok (.if_icmp .ne 15, 3) := by decide +kernel
theorem dX12_among_22 : decode cX12_among 22 = .ok (.aload_n 0, 1) := by decide +kernel
theorem dX12_among_23 : decode cX12_among 23 = .ok (.dup, 1) := by decide +kernel
theorem dX12_among_24 : decode cX12_among 24 = .ok (.getfield 56, 3) := by decide +kernel
theorem dX12_among_27 : decode cX12_among 27 = .ok (.iconst 1, 1) := by decide +kernel
theorem dX12_among_28 : decode cX12_among 28 = .ok (.iadd, 1) := by decide +kernel
theorem dX12_among_29 : decode cX12_among 29 = .ok (.putfield 56, 3) := by decide +kernel
theorem dX12_among_32 : decode cX12_among 32 = .ok (.iload_n 2, 1) := by decide +kernel
theorem dX12_among_33 : decode cX12_among 33 = .ok (.ireturn, 1) := by decide +kernel
theorem dX12_among_34 : decode cX12_among 34 = .ok (.iinc 2 1, 3) := by decide +kernel
theorem dX12_among_37 : decode cX12_among 37 = .ok (.goto (-35), 3) := by decide +kernel
theorem dX12_among_40 : decode cX12_among 40 = .ok (.iconst (-1), 1) := by decide +kernel
theorem dX12_among_41 : decode cX12_among 41 = .ok (.ireturn, 1) := by decide +kernel
theorem dX12_emits_0 : decode cX12_emits 0 = .ok (.aload_n 0, 1) := by decide +kernel
theorem dX12_emits_1 : decode cX12_emits 1 = .ok (.getfield 62, 3) := by decide +kernel
theorem dX12_emits_4 : decode cX12_emits 4 = .ok (.ifCond .ne 52, 3) := by decide +kernel
theorem dX12_emits_7 : decode cX12_emits 7 = .ok (.aload_n 0, 1) := by decide +kernel
theorem dX12_emits_8 : decode cX12_emits 8 = .ok (.getfield 9, 3) := by decide +kernel
theorem dX12_emits_11 : decode cX12_emits 11 = .ok (.sipush 258, 3) := by decide +kernel
theorem dX12_emits_14 : decode cX12_emits 14 = .ok (.sipush 140, 3) := by decide +kernel
theorem dX12_emits_17 : decode cX12_emits 17 = .ok (.aload_n 0, 1) := by decide +kernel
theorem dX12_emits_18 : decode cX12_emits 18 = .ok (.getfield 83, 3) := by decide +kernel
theorem dX12_emits_21 : decode cX12_emits 21 = .ok (.imul, 1) := by decide +kernel
theorem dX12_emits_22 : decode cX12_emits 22 = .ok (.iadd, 1) := by decide +kernel
theorem dX12_emits_23 : decode cX12_emits 23 = .ok (.aload_n 0, 1) := by decide +kernel
theorem dX12_emits_24 : decode cX12_emits 24 = .ok (.getfield 9, 3) := by decide +kernel
theorem dX12_emits_27 : decode cX12_emits 27 = .ok (.sipush 250, 3) := by decide +kernel
theorem dX12_emits_30 : decode cX12_emits 30 = .ok (.aload_n 0, 1) := by decide +kernel
theorem dX12_emits_31 : decode cX12_emits 31 = .ok (.getfield 83, 3) := by decide +kernel
theorem dX12_emits_34 : decode cX12_emits 34 = .ok (.iadd, 1) := by decide +kernel
theorem dX12_emits_35 : decode cX12_emits 35 = .ok (.iaload, 1) := by decide +kernel
theorem dX12_emits_36 : decode cX12_emits 36 = .ok (.iadd, 1) := by decide +kernel
theorem dX12_emits_37 : decode cX12_emits 37 = .ok (.iload_n 1, 1) := by decide +kernel
theorem dX12_emits_38 : decode cX12_emits 38 = .ok (.iastore, 1) := by decide +kernel
theorem dX12_emits_39 : decode cX12_emits 39 = .ok (.aload_n 0, 1) := by decide +kernel
theorem dX12_emits_40 : decode cX12_emits 40 = .ok (.getfield 9, 3) := by decide +kernel
theorem dX12_emits_43 : decode cX12_emits 43 = .ok (.sipush 250, 3) := by decide +kernel
theorem dX12_emits_46 : decode cX12_emits 46 = .ok (.aload_n 0, 1) := by decide +kernel
theorem dX12_emits_47 : decode cX12_emits 47 = .ok (.getfield 83, 3) := by decide +kernel
theorem dX12_emits_50 : decode cX12_emits 50 = .ok (.iadd, 1) := by decide +kernel
theorem dX12_emits_51 : decode cX12_emits 51 = .ok (.dup2, 1) := by decide +kernel
theorem dX12_emits_52 : decode cX12_emits 52 = .ok (.iaload, 1) := by decide +kernel
theorem dX12_emits_53 : decode cX12_emits 53 = .ok (.iconst 1, 1) := by decide +kernel
theorem dX12_emits_54 : decode cX12_emits 54 = .ok (.iadd, 1) := by decide +kernel
theorem dX12_emits_55 : decode cX12_emits 55 = .ok (.iastore, 1) := by decide +kernel
theorem dX12_emits_56 : decode cX12_emits 56 = .ok (.return_, 1) := by decide +kernel
set_option maxRecDepth 20000 in
theorem ggX12_factor_X12_here : GoodIn wsX12_factor wsX12_here := goodIn_r _ [8, 3, 9, 10, 91, 92, 93, 94, 95, 96, 97, 98, 99, 100, 101, 102, 103, 104, 105, 106, 107, 108, 109, 110, 111, 112] (by decide +kernel) (by decide +kernel)
set_option maxRecDepth 20000 in
theorem gX12_factor_X12_here : GoodIn wsX12_factor (wsV RX12 66 RX12 yX12_here wsX12_here) := goodIn_app (goodIn_of _ (by decide +kernel)) ggX12_factor_X12_here
set_option maxRecDepth 20000 in
theorem ggX12_factor_X12_factor : GoodIn wsX12_factor wsX12_factor := goodIn_r _ [0, 1, 2, 3, 4, 5, 6, 7, 8, 9, 10, 11, 12, 13, 14, 15, 16, 17, 18, 19, 20, 21, 22, 23, 24, 25, 26, 27, 28, 29, 30, 31, 32, 33, 34, 35, 36, 37, 38, 39, 40, 41, 42, 43, 44, 45, 46, 47, 48, 49, 50, 51, 52, 53, 54, 55, 56, 57, 58, 59, 60, 61, 62, 63, 64, 65, 66, 67, 68, 69, 70, 71, 72, 73, 74, 75, 76, 77, 78, 79, 80, 81, 82, 83, 84, 85, 86, 87, 88, 89, 90, 91, 92, 93, 94, 95, 96, 97, 98, 99, 100, 101, 102, 103, 104, 105, 106, 107, 108, 109, 110, 111, 112] (by decide +kernel) (by decide +kernel)
set_option maxRecDepth 20000 in
theorem gX12_factor_X12_factor : GoodIn wsX12_factor (wsV RX12 89 RX12 yX12_factor wsX12_factor) := goodIn_app (goodIn_of _ (by decide +kernel)) ggX12_factor_X12_factor
set_option maxRecDepth 20000 in
theorem ggX12_factor_X12_emits : GoodIn wsX12_factor wsX12_emits := goodIn_r _ [17, 1, 10, 18, 91, 92, 93, 94, 95, 96, 97, 98, 99, 100, 101, 102, 103, 104, 105, 106, 107, 108, 109, 110, 111, 112] (by decide +kernel) (by decide +kernel)
set_option maxRecDepth 20000 in
theorem gX12_factor_X12_emits : GoodIn wsX12_factor (wsV RX12 92 RX12 yX12_emits wsX12_emits) := goodIn_app (goodIn_of _ (by decide +kernel)) ggX12_factor_X12_emits
set_option maxRecDepth 20000 in
theorem ggX12_factor_X12_some : GoodIn wsX12_factor wsX12_some := goodIn_r _ [87, 1, 3, 88, 89, 90, 7, 4, 5, 6, 8, 9, 10, 14, 15, 16, 17, 18, 86, 11, 12, 13, 0, 2, 19, 20, 21, 22, 23, 24, 25, 26, 27, 28, 29, 30, 31, 32, 33, 34, 35, 36, 37, 38, 39, 40, 41, 42, 43, 44, 45, 46, 47, 48, 49, 50, 51, 52, 53, 54, 55, 56, 57, 58, 59, 60, 61, 62, 63, 64, 65, 66, 67, 68, 69, 70, 71, 72, 73, 74, 75, 76, 77, 78, 79, 80, 81, 82, 83, 84, 85, 91, 92, 93, 94, 95, 96, 97, 98, 99, 100, 101, 102, 103, 104, 105, 106, 107, 108, 109, 110, 111, 112] (by decide +kernel) (by decide +kernel)
set_option maxRecDepth 20000 in
theorem gX12_factor_X12_some : GoodIn wsX12_factor (wsV RX12 95 RX12 yX12_some wsX12_some) := goodIn_app (goodIn_of _ (by decide +kernel)) ggX12_factor_X12_some
set_option maxRecDepth 20000 in
theorem ggX12_factor_X12_must : GoodIn wsX12_factor wsX12_must := goodIn_r _ [25, 1, 3, 4, 5, 6, 7, 8, 9, 10, 91, 92, 93, 94, 95, 96, 97, 98, 99, 100, 101, 102, 103, 104, 105, 106, 107, 108, 109, 110, 111, 112] (by decide +kernel) (by decide +kernel)
set_option maxRecDepth 20000 in
theorem gX12_factor_X12_must : GoodIn wsX12_factor (wsV RX12 79 RX12 yX12_must wsX12_must) := goodIn_app (goodIn_of _ (by decide +kernel)) ggX12_factor_X12_must
set_option maxRecDepth 20000 in
theorem ggX12_factor_X12_among : GoodIn wsX12_factor wsX12_among := goodIn_r _ [29, 3, 30, 31, 32, 33, 34, 35, 36, 37, 38, 39, 40, 41, 4, 5, 6, 7, 8, 9, 10, 42, 43, 44, 45, 46, 47, 48, 49, 50, 51, 52, 53, 54, 55, 56, 57, 58, 59, 60, 61, 62, 63, 64, 65, 66, 67, 68, 69, 70, 71, 72, 73, 74, 75, 76, 77, 78, 91, 92, 93, 94, 95, 96, 97, 98, 99, 100, 101, 102, 103, 104, 105, 106, 107, 108, 109, 110, 111, 112] (by decide +kernel) (by decide +kernel)
set_option maxRecDepth 20000 in
theorem gX12_factor_X12_among : GoodIn wsX12_factor (wsV RX12 100 RX12 yX12_among wsX12_among) := goodIn_app (goodIn_of _ (by decide +kernel)) ggX12_factor_X12_among
set_option maxRecDepth 20000 in
theorem ggX12_factor_X12_figures : GoodIn wsX12_factor wsX12_figures := goodIn_r _ [82, 1, 3, 4, 5, 6, 7, 8, 9, 10, 83, 84, 85, 91, 92, 93, 94, 95, 96, 97, 98, 99, 100, 101, 102, 103, 104, 105, 106, 107, 108, 109, 110, 111, 112] (by decide +kernel) (by decide +kernel)
set_option maxRecDepth 20000 in
theorem gX12_factor_X12_figures : GoodIn wsX12_factor (wsV RX12 106 RX12 yX12_figures wsX12_figures) := goodIn_app (goodIn_of _ (by decide +kernel)) ggX12_factor_X12_figures
theorem dX12_factor_0 : decode cX12_factor 0 = .ok (.aload_n 0, 1) := by decide +kernel
theorem dX12_factor_1 : decode cX12_factor 1 = .ok (.getfield 62, 3) := by decide +kernel
theorem dX12_factor_4 : decode cX12_factor 4 = .ok (.ifCond .eq 4, 3) := by decide +kernel
theorem dX12_factor_7 : decode cX12_factor 7 = .ok (.return_, 1) := by decide +kernel
theorem dX12_factor_8 : decode cX12_factor 8 = .ok (.aload_n 0, 1) := by decide +kernel
theorem dX12_factor_9 : decode cX12_factor 9 = .ok (.invokevirtual 66, 3) := by decide +kernel
theorem dX12_factor_12 : decode cX12_factor 12 = .ok (.istore_n 1, 1) := by decide +kernel
theorem dX12_factor_13 : decode cX12_factor 13 = .ok (.iload_n 1, 1) := by decide +kernel
theorem dX12_factor_14 : decode cX12_factor 14 = .ok (.bipush 33, 2) := by decide +kernel
theorem dX12_factor_16 : decode cX12_factor 16 = .ok (.if_icmp .eq 9, 3) := by decide +kernel
theorem dX12_factor_19 : decode cX12_factor 19 = .ok (.iload_n 1, 1) := by decide +kernel
theorem dX12_factor_20 : decode cX12_factor 20 = .ok (.bipush 40, 2) := by decide +kernel
theorem dX12_factor_22 : decode cX12_factor 22 = .ok (.if_icmp .ne 90, 3) := by decide +kernel
theorem dX12_factor_25 : decode cX12_factor 25 = .ok (.aload_n 0, 1) := by decide +kernel
theorem dX12_factor_26 : decode cX12_factor 26 = .ok (.aload_n 0, 1) := by decide +kernel
theorem dX12_factor_27 : decode cX12_factor 27 = .ok (.getfield 86, 3) := by decide +kernel
theorem dX12_factor_30 : decode cX12_factor 30 = .ok (.iconst 5, 1) := by decide +kernel
theorem dX12_factor_31 : decode cX12_factor 31 = .ok (.if_icmp .ne 7, 3) := by decide +kernel
theorem dX12_factor_34 : decode cX12_factor 34 = .ok (.iconst 1, 1) := by decide +kernel
theorem dX12_factor_35 : decode cX12_factor 35 = .ok (.goto 4, 3) := by decide +kernel
theorem dX12_factor_38 : decode cX12_factor 38 = .ok (.iconst 0, 1) := by decide +kernel
theorem dX12_factor_39 : decode cX12_factor 39 = .ok (.putfield 62, 3) := by decide +kernel
theorem dX12_factor_42 : decode cX12_factor 42 = .ok (.aload_n 0, 1) := by decide +kernel
theorem dX12_factor_43 : decode cX12_factor 43 = .ok (.dup, 1) := by decide +kernel
theorem dX12_factor_44 : decode cX12_factor 44 = .ok (.getfield 86, 3) := by decide +kernel
theorem dX12_factor_47 : decode cX12_factor 47 = .ok (.iconst 1, 1) := by decide +kernel
theorem dX12_factor_48 : decode cX12_factor 48 = .ok (.iadd, 1) := by decide +kernel
theorem dX12_factor_49 : decode cX12_factor 49 = .ok (.putfield 86, 3) := by decide +kernel
theorem dX12_factor_52 : decode cX12_factor 52 = .ok (.aload_n 0, 1) := by decide +kernel
theorem dX12_factor_53 : decode cX12_factor 53 = .ok (.dup, 1) := by decide +kernel
theorem dX12_factor_54 : decode cX12_factor 54 = .ok (.getfield 56, 3) := by decide +kernel
theorem dX12_factor_57 : decode cX12_factor 57 = .ok (.aload_n 0, 1) := by decide +kernel
theorem dX12_factor_58 : decode cX12_factor 58 = .ok (.getfield 62, 3) := by decide +kernel
theorem dX12_factor_61 : decode cX12_factor 61 = .ok (.ifCond .eq 7, 3) := by decide +kernel
theorem dX12_factor_64 : decode cX12_factor 64 = .ok (.iconst 0, 1) := by decide +kernel
theorem dX12_factor_65 : decode cX12_factor 65 = .ok (.goto 4, 3) := by decide +kernel
theorem dX12_factor_68 : decode cX12_factor 68 = .ok (.iconst 1, 1) := by decide +kernel
theorem dX12_factor_69 : decode cX12_factor 69 = .ok (.iadd, 1) := by decide +kernel
theorem dX12_factor_70 : decode cX12_factor 70 = .ok (.putfield 56, 3) := by decide +kernel
theorem dX12_factor_73 : decode cX12_factor 73 = .ok (.iload_n 1, 1) := by decide +kernel
theorem dX12_factor_74 : decode cX12_factor 74 = .ok (.bipush 33, 2) := by decide +kernel
theorem dX12_factor_76 : decode cX12_factor 76 = .ok (.if_icmp .ne 15, 3) := by decide +kernel
theorem dX12_factor_79 : decode cX12_factor 79 = .ok (.aload_n 0, 1) := by decide +kernel
theorem dX12_factor_80 : decode cX12_factor 80 = .ok (.invokevirtual 89, 3) := by decide +kernel
theorem dX12_factor_83 : decode cX12_factor 83 = .ok (.aload_n 0, 1) := by decide +kernel
theorem dX12_factor_84 : decode cX12_factor 84 = .ok (.iconst (-1), 1) := by decide +kernel
theorem dX12_factor_85 : decode cX12_factor 85 = .ok (.invokevirtual 92, 3) := by decide +kernel
theorem dX12_factor_88 : decode cX12_factor 88 = .ok (.goto 13, 3) := by decide +kernel
theorem dX12_factor_91 : decode cX12_factor 91 = .ok (.aload_n 0, 1) := by decide +kernel
theorem dX12_factor_92 : decode cX12_factor 92 = .ok (.invokevirtual 95, 3) := by decide +kernel
theorem dX12_factor_95 : decode cX12_factor 95 = .ok (.aload_n 0, 1) := by decide +kernel
theorem dX12_factor_96 : decode cX12_factor 96 = .ok (.bipush 41, 2) := by decide +kernel
theorem dX12_factor_98 : decode cX12_factor 98 = .ok (.invokevirtual 79, 3) := by decide +kernel
theorem dX12_factor_101 : decode cX12_factor 101 = .ok (.aload_n 0, 1) := by decide +kernel
theorem dX12_factor_102 : decode cX12_factor 102 = .ok (.dup, 1) := by decide +kernel
theorem dX12_factor_103 : decode cX12_factor 103 = .ok (.getfield 86, 3) := by decide +kernel
theorem dX12_factor_106 : decode cX12_factor 106 = .ok (.iconst 1, 1) := by decide +kernel
theorem dX12_factor_107 : decode cX12_factor 107 = .ok (.isub, 1) := by decide +kernel
theorem dX12_factor_108 : decode cX12_factor 108 = .ok (.putfield 86, 3) := by decide +kernel
theorem dX12_factor_111 : decode cX12_factor 111 = .ok (.return_, 1) := by decide +kernel
theorem dX12_factor_112 : decode cX12_factor 112 = .ok (.aload_n 0, 1) := by decide +kernel
theorem dX12_factor_113 : decode cX12_factor 113 = .ok (.ldc 98, 2) := by decide +kernel
theorem dX12_factor_115 : decode cX12_factor 115 = .ok (.invokevirtual 100, 3) := by decide +kernel
theorem dX12_factor_118 : decode cX12_factor 118 = .ok (.istore_n 2, 1) := by decide +kernel
theorem dX12_factor_119 : decode cX12_factor 119 = .ok (.aload_n 0, 1) := by decide +kernel
theorem dX12_factor_120 : decode cX12_factor 120 = .ok (.iload_n 2, 1) := by decide +kernel
theorem dX12_factor_121 : decode cX12_factor 121 = .ok (.iconst (-1), 1) := by decide +kernel
theorem dX12_factor_122 : decode cX12_factor 122 = .ok (.if_icmp .ne 7, 3) := by decide +kernel
theorem dX12_factor_125 : decode cX12_factor 125 = .ok (.iconst 1, 1) := by decide +kernel
theorem dX12_factor_126 : decode cX12_factor 126 = .ok (.goto 4, 3) := by decide +kernel
theorem dX12_factor_129 : decode cX12_factor 129 = .ok (.iconst 0, 1) := by decide +kernel
theorem dX12_factor_130 : decode cX12_factor 130 = .ok (.putfield 62, 3) := by decide +kernel
theorem dX12_factor_133 : decode cX12_factor 133 = .ok (.aload_n 0, 1) := by decide +kernel
theorem dX12_factor_134 : decode cX12_factor 134 = .ok (.getfield 62, 3) := by decide +kernel
theorem dX12_factor_137 : decode cX12_factor 137 = .ok (.ifCond .eq 7, 3) := by decide +kernel
theorem dX12_factor_140 : decode cX12_factor 140 = .ok (.iconst 0, 1) := by decide +kernel
theorem dX12_factor_141 : decode cX12_factor 141 = .ok (.goto 9, 3) := by decide +kernel
theorem dX12_factor_144 : decode cX12_factor 144 = .ok (.aload_n 0, 1) := by decide +kernel
theorem dX12_factor_145 : decode cX12_factor 145 = .ok (.ldc 104, 2) := by decide +kernel
theorem dX12_factor_147 : decode cX12_factor 147 = .ok (.invokevirtual 100, 3) := by decide +kernel
theorem dX12_factor_150 : decode cX12_factor 150 = .ok (.istore_n 3, 1) := by decide +kernel
theorem dX12_factor_151 : decode cX12_factor 151 = .ok (.aload_n 0, 1) := by decide +kernel
theorem dX12_factor_152 : decode cX12_factor 152 = .ok (.aload_n 0, 1) := by decide +kernel
theorem dX12_factor_153 : decode cX12_factor 153 = .ok (.getfield 62, 3) := by decide +kernel
theorem dX12_factor_156 : decode cX12_factor 156 = .ok (.ifCond .ne 8, 3) := by decide +kernel
theorem dX12_factor_159 : decode cX12_factor 159 = .ok (.iload_n 3, 1) := by decide +kernel
theorem dX12_factor_160 : decode cX12_factor 160 = .ok (.iconst (-1), 1) := by decide +kernel
theorem dX12_factor_161 : decode cX12_factor 161 = .ok (.if_icmp .ne 7, 3) := by decide +kernel
theorem dX12_factor_164 : decode cX12_factor 164 = .ok (.iconst 1, 1) := by decide +kernel
theorem dX12_factor_165 : decode cX12_factor 165 = .ok (.goto 4, 3) := by decide +kernel
theorem dX12_factor_168 : decode cX12_factor 168 = .ok (.iconst 0, 1) := by decide +kernel
theorem dX12_factor_169 : decode cX12_factor 169 = .ok (.putfield 62, 3) := by decide +kernel
theorem dX12_factor_172 : decode cX12_factor 172 = .ok (.aload_n 0, 1) := by decide +kernel
theorem dX12_factor_173 : decode cX12_factor 173 = .ok (.invokevirtual 106, 3) := by decide +kernel
theorem dX12_factor_176 : decode cX12_factor 176 = .ok (.istore 4, 2) := by decide +kernel
theorem dX12_factor_178 : decode cX12_factor 178 = .ok (.aload_n 0, 1) := by decide +kernel
theorem dX12_factor_179 : decode cX12_factor 179 = .ok (.iload_n 2, 1) := by decide +kernel
theorem dX12_factor_180 : decode cX12_factor 180 = .ok (.bipush 8, 2) := by decide +kernel
theorem dX12_factor_182 : decode cX12_factor 182 = .ok (.iload_n 3, 1) := by decide +kernel
theorem dX12_factor_183 : decode cX12_factor 183 = .ok (.imul, 1) := by decide +kernel
theorem dX12_factor_184 : decode cX12_factor 184 = .ok (.iadd, 1) := by decide +kernel
theorem dX12_factor_185 : decode cX12_factor 185 = .ok (.bipush 32, 2) := by decide +kernel
theorem dX12_factor_187 : decode cX12_factor 187 = .ok (.iload 4, 2) := by decide +kernel
theorem dX12_factor_189 : decode cX12_factor 189 = .ok (.imul, 1) := by decide +kernel
theorem dX12_factor_190 : decode cX12_factor 190 = .ok (.iadd, 1) := by decide +kernel
theorem dX12_factor_191 : decode cX12_factor 191 = .ok (.invokevirtual 92, 3) := by decide +kernel
theorem dX12_factor_194 : decode cX12_factor 194 = .ok (.return_, 1) := by decide +kernel
set_option maxRecDepth 20000 in
theorem ggX12_every_X12_factor : GoodIn wsX12_every wsX12_factor := goodIn_r _ [18, 1, 19, 2, 7, 8, 9, 6, 10, 11, 12, 3, 4, 5, 13, 14, 15, 16, 17, 20, 21, 22, 23, 24, 25, 26, 27, 28, 29, 30, 31, 32, 33, 34, 35, 36, 37, 38, 39, 40, 41, 42, 43, 44, 45, 46, 47, 48, 49, 50, 51, 52, 53, 54, 55, 56, 57, 58, 59, 60, 61, 62, 63, 64, 65, 66, 67, 68, 69, 70, 71, 72, 73, 74, 75, 76, 77, 78, 79, 80, 81, 82, 83, 84, 85, 86, 0, 87, 88, 89, 90, 91, 92, 93, 94, 95, 96, 97, 98, 99, 100, 101, 102, 103, 104, 105, 106, 107, 108, 109, 110, 111, 112] (by decide +kernel) (by decide +kernel)
set_option maxRecDepth 20000 in
theorem gX12_every_X12_factor : GoodIn wsX12_every (wsV RX12 89 RX12 yX12_factor wsX12_factor) := goodIn_app (goodIn_of _ (by decide +kernel)) ggX12_every_X12_factor
set_option maxRecDepth 20000 in
theorem ggX12_every_X12_here : GoodIn wsX12_every wsX12_here := goodIn_r _ [10, 2, 11, 12, 91, 92, 93, 94, 95, 96, 97, 98, 99, 100, 101, 102, 103, 104, 105, 106, 107, 108, 109, 110, 111, 112] (by decide +kernel) (by decide +kernel)
set_option maxRecDepth 20000 in
theorem gX12_every_X12_here : GoodIn wsX12_every (wsV RX12 66 RX12 yX12_here wsX12_here) := goodIn_app (goodIn_of _ (by decide +kernel)) ggX12_every_X12_here
set_option maxRecDepth 20000 in
theorem ggX12_every_X12_emits : GoodIn wsX12_every wsX12_emits := goodIn_r _ [16, 1, 12, 17, 91, 92, 93, 94, 95, 96, 97, 98, 99, 100, 101, 102, 103, 104, 105, 106, 107, 108, 109, 110, 111, 112] (by decide +kernel) (by decide +kernel)
set_option maxRecDepth 20000 in
theorem gX12_every_X12_emits : GoodIn wsX12_every (wsV RX12 92 RX12 yX12_emits wsX12_emits) := goodIn_app (goodIn_of _ (by decide +kernel)) ggX12_every_X12_emits
theorem dX12_every_0 : decode cX12_every 0 = .ok (.aload_n 0, 1) := by decide +kernel
theorem dX12_every_1 : decode cX12_every 1 = .ok (.invokevirtual 89, 3) := by decide +kernel
theorem dX12_every_4 : decode cX12_every 4 = .ok (.aload_n 0, 1) := by decide +kernel
theorem dX12_every_5 : decode cX12_every 5 = .ok (.getfield 62, 3) := by decide +kernel
theorem dX12_every_8 : decode cX12_every 8 = .ok (.ifCond .ne 35, 3) := by decide +kernel
theorem dX12_every_11 : decode cX12_every 11 = .ok (.aload_n 0, 1) := by decide +kernel
theorem dX12_every_12 : decode cX12_every 12 = .ok (.invokevirtual 66, 3) := by decide +kernel
theorem dX12_every_15 : decode cX12_every 15 = .ok (.bipush 38, 2) := by decide +kernel
theorem dX12_every_17 : decode cX12_every 17 = .ok (.if_icmp .ne 26, 3) := by decide +kernel
theorem dX12_every_20 : decode cX12_every 20 = .ok (.aload_n 0, 1) := by decide +kernel
theorem dX12_every_21 : decode cX12_every 21 = .ok (.dup, 1) := by decide +kernel
theorem dX12_every_22 : decode cX12_every 22 = .ok (.getfield 56, 3) := by decide +kernel
theorem dX12_every_25 : decode cX12_every 25 = .ok (.iconst 1, 1) := by decide +kernel
theorem dX12_every_26 : decode cX12_every 26 = .ok (.iadd, 1) := by decide +kernel
theorem dX12_every_27 : decode cX12_every 27 = .ok (.putfield 56, 3) := by decide +kernel
theorem dX12_every_30 : decode cX12_every 30 = .ok (.aload_n 0, 1) := by decide +kernel
theorem dX12_every_31 : decode cX12_every 31 = .ok (.invokevirtual 89, 3) := by decide +kernel
theorem dX12_every_34 : decode cX12_every 34 = .ok (.aload_n 0, 1) := by decide +kernel
theorem dX12_every_35 : decode cX12_every 35 = .ok (.bipush (-2), 2) := by decide +kernel
theorem dX12_every_37 : decode cX12_every 37 = .ok (.invokevirtual 92, 3) := by decide +kernel
theorem dX12_every_40 : decode cX12_every 40 = .ok (.goto (-36), 3) := by decide +kernel
theorem dX12_every_43 : decode cX12_every 43 = .ok (.return_, 1) := by decide +kernel
set_option maxRecDepth 20000 in
theorem ggX12_some_X12_every : GoodIn wsX12_some wsX12_every := goodIn_r _ [18, 1, 2, 19, 20, 21, 6, 7, 8, 9, 10, 11, 12, 13, 14, 15, 16, 17, 22, 23, 24, 25, 26, 27, 28, 29, 30, 31, 32, 33, 34, 35, 36, 37, 38, 39, 40, 41, 42, 43, 44, 45, 46, 47, 48, 49, 50, 51, 52, 53, 54, 55, 56, 57, 58, 59, 60, 61, 62, 63, 64, 65, 66, 67, 68, 69, 70, 71, 72, 73, 74, 75, 76, 77, 78, 79, 80, 81, 82, 83, 84, 85, 86, 87, 88, 89, 90, 0, 3, 4, 5, 91, 92, 93, 94, 95, 96, 97, 98, 99, 100, 101, 102, 103, 104, 105, 106, 107, 108, 109, 110, 111, 112] (by decide +kernel) (by decide +kernel)
set_option maxRecDepth 20000 in
theorem gX12_some_X12_every : GoodIn wsX12_some (wsV RX12 109 RX12 yX12_every wsX12_every) := goodIn_app (goodIn_of _ (by decide +kernel)) ggX12_some_X12_every
set_option maxRecDepth 20000 in
theorem ggX12_some_X12_here : GoodIn wsX12_some wsX12_here := goodIn_r _ [10, 2, 11, 12, 91, 92, 93, 94, 95, 96, 97, 98, 99, 100, 101, 102, 103, 104, 105, 106, 107, 108, 109, 110, 111, 112] (by decide +kernel) (by decide +kernel)
set_option maxRecDepth 20000 in
theorem gX12_some_X12_here : GoodIn wsX12_some (wsV RX12 66 RX12 yX12_here wsX12_here) := goodIn_app (goodIn_of _ (by decide +kernel)) ggX12_some_X12_here
set_option maxRecDepth 20000 in
theorem ggX12_some_X12_emits : GoodIn wsX12_some wsX12_emits := goodIn_r _ [16, 1, 12, 17, 91, 92, 93, 94, 95, 96, 97, 98, 99, 100, 101, 102, 103, 104, 105, 106, 107, 108, 109, 110, 111, 112] (by decide +kernel) (by decide +kernel)
set_option maxRecDepth 20000 in
theorem gX12_some_X12_emits : GoodIn wsX12_some (wsV RX12 92 RX12 yX12_emits wsX12_emits) := goodIn_app (goodIn_of _ (by decide +kernel)) ggX12_some_X12_emits
theorem dX12_some_0 : decode cX12_some 0 = .ok (.aload_n 0, 1) := by decide +kernel
theorem dX12_some_1 : decode cX12_some 1 = .ok (.invokevirtual 109, 3) := by decide +kernel
theorem dX12_some_4 : decode cX12_some 4 = .ok (.aload_n 0, 1) := by decide +kernel
theorem dX12_some_5 : decode cX12_some 5 = .ok (.getfield 62, 3) := by decide +kernel
theorem dX12_some_8 : decode cX12_some 8 = .ok (.ifCond .ne 35, 3) := by decide +kernel
theorem dX12_some_11 : decode cX12_some 11 = .ok (.aload_n 0, 1) := by decide +kernel
theorem dX12_some_12 : decode cX12_some 12 = .ok (.invokevirtual 66, 3) := by decide +kernel
theorem dX12_some_15 : decode cX12_some 15 = .ok (.bipush 124, 2) := by decide +kernel
theorem dX12_some_17 : decode cX12_some 17 = .ok (.if_icmp .ne 26, 3) := by decide +kernel
theorem dX12_some_20 : decode cX12_some 20 = .ok (.aload_n 0, 1) := by decide +kernel
theorem dX12_some_21 : decode cX12_some 21 = .ok (.dup, 1) := by decide +kernel
theorem dX12_some_22 : decode cX12_some 22 = .ok (.getfield 56, 3) := by decide +kernel
theorem dX12_some_25 : decode cX12_some 25 = .ok (.iconst 1, 1) := by decide +kernel
theorem dX12_some_26 : decode cX12_some 26 = .ok (.iadd, 1) := by decide +kernel
theorem dX12_some_27 : decode cX12_some 27 = .ok (.putfield 56, 3) := by decide +kernel
theorem dX12_some_30 : decode cX12_some 30 = .ok (.aload_n 0, 1) := by decide +kernel
theorem dX12_some_31 : decode cX12_some 31 = .ok (.invokevirtual 109, 3) := by decide +kernel
theorem dX12_some_34 : decode cX12_some 34 = .ok (.aload_n 0, 1) := by decide +kernel
theorem dX12_some_35 : decode cX12_some 35 = .ok (.bipush (-3), 2) := by decide +kernel
theorem dX12_some_37 : decode cX12_some 37 = .ok (.invokevirtual 92, 3) := by decide +kernel
theorem dX12_some_40 : decode cX12_some 40 = .ok (.goto (-36), 3) := by decide +kernel
theorem dX12_some_43 : decode cX12_some 43 = .ok (.return_, 1) := by decide +kernel
set_option maxRecDepth 20000 in
theorem ggX12_much_X12_spells : GoodIn wsX12_much wsX12_spells := goodIn_r _ [5, 6, 7, 8, 9, 10, 11, 12, 13, 14, 15, 16, 17, 18, 19, 20, 21, 22, 23, 24, 25, 26, 27, 28, 29, 30, 31, 32, 33, 34, 35, 36, 37, 38, 39, 40, 41, 42, 43, 44, 45, 46, 47, 48, 49, 50, 51, 52, 53, 54, 55, 56, 57, 4, 58, 59, 60, 61, 62, 63, 64, 65, 66, 96, 97, 98, 99, 100, 101, 102, 103, 104, 105, 106, 107, 108, 109, 110, 111, 112, 113, 114, 115, 116, 117] (by decide +kernel) (by decide +kernel)
set_option maxRecDepth 20000 in
theorem gX12_much_X12_spells : GoodIn wsX12_much (wsV RX12 112 RX12 yX12_spells wsX12_spells) := goodIn_app (goodIn_of _ (by decide +kernel)) ggX12_much_X12_spells
set_option maxRecDepth 20000 in
theorem ggX12_much_X12_figures : GoodIn wsX12_much wsX12_figures := goodIn_r _ [70, 59, 60, 61, 62, 63, 4, 64, 65, 66, 71, 72, 73, 96, 97, 98, 99, 100, 101, 102, 103, 104, 105, 106, 107, 108, 109, 110, 111, 112, 113, 114, 115, 116, 117] (by decide +kernel) (by decide +kernel)
set_option maxRecDepth 20000 in
theorem gX12_much_X12_figures : GoodIn wsX12_much (wsV RX12 106 RX12 yX12_figures wsX12_figures) := goodIn_app (goodIn_of _ (by decide +kernel)) ggX12_much_X12_figures
set_option maxRecDepth 20000 in
theorem ggX12_much_X12_must : GoodIn wsX12_much wsX12_must := goodIn_r _ [58, 59, 60, 61, 62, 63, 4, 64, 65, 66, 96, 97, 98, 99, 100, 101, 102, 103, 104, 105, 106, 107, 108, 109, 110, 111, 112, 113, 114, 115, 116, 117] (by decide +kernel) (by decide +kernel)
set_option maxRecDepth 20000 in
theorem gX12_much_X12_must : GoodIn wsX12_much (wsV RX12 79 RX12 yX12_must wsX12_must) := goodIn_app (goodIn_of _ (by decide +kernel)) ggX12_much_X12_must
set_option maxRecDepth 20000 in
theorem ggX12_much_X12_some : GoodIn wsX12_much wsX12_some := goodIn_r _ [77, 59, 60, 78, 79, 80, 4, 61, 62, 63, 64, 65, 66, 81, 82, 83, 84, 85, 86, 87, 88, 89, 90, 91, 74, 75, 76, 55, 56, 57, 58, 92, 93, 94, 95, 6, 7, 8, 9, 10, 11, 12, 13, 14, 15, 16, 17, 18, 19, 20, 21, 22, 23, 24, 25, 26, 27, 28, 29, 30, 31, 32, 33, 34, 35, 36, 37, 38, 39, 40, 41, 42, 43, 44, 45, 46, 47, 48, 49, 50, 51, 52, 53, 54, 67, 68, 69, 70, 71, 72, 73, 96, 97, 98, 99, 100, 101, 102, 103, 104, 105, 106, 107, 108, 109, 110, 111, 112, 113, 114, 115, 116, 117] (by decide +kernel) (by decide +kernel)
set_option maxRecDepth 20000 in
theorem gX12_much_X12_some : GoodIn wsX12_much (wsV RX12 95 RX12 yX12_some wsX12_some) := goodIn_app (goodIn_of _ (by decide +kernel)) ggX12_much_X12_some
set_option maxRecDepth 20000 in
theorem ggX12_much_X12_emits : GoodIn wsX12_much wsX12_emits := goodIn_r _ [84, 59, 66, 85, 96, 97, 98, 99, 100, 101, 102, 103, 104, 105, 106, 107, 108, 109, 110, 111, 112, 113, 114, 115, 116, 117] (by decide +kernel) (by decide +kernel)
set_option maxRecDepth 20000 in
theorem gX12_much_X12_emits : GoodIn wsX12_much (wsV RX12 92 RX12 yX12_emits wsX12_emits) := goodIn_app (goodIn_of _ (by decide +kernel)) ggX12_much_X12_emits
theorem dX12_much_0 : decode cX12_much 0 = .ok (.aload_n 0, 1) := by decide +kernel
theorem dX12_much_1 : decode cX12_much 1 = .ok (.aload_n 2, 1) := by decide +kernel
theorem dX12_much_2 : decode cX12_much 2 = .ok (.invokevirtual 112, 3) := by decide +kernel
theorem dX12_much_5 : decode cX12_much 5 = .ok (.aload_n 0, 1) := by decide +kernel
theorem dX12_much_6 : decode cX12_much 6 = .ok (.invokevirtual 106, 3) := by decide +kernel
theorem dX12_much_9 : decode cX12_much 9 = .ok (.istore_n 3, 1) := by decide +kernel
theorem dX12_much_10 : decode cX12_much 10 = .ok (.aload_n 0, 1) := by decide +kernel
theorem dX12_much_11 : decode cX12_much 11 = .ok (.bipush 32, 2) := by decide +kernel
theorem dX12_much_13 : decode cX12_much 13 = .ok (.invokevirtual 79, 3) := by decide +kernel
theorem dX12_much_16 : decode cX12_much 16 = .ok (.aload_n 0, 1) := by decide +kernel
theorem dX12_much_17 : decode cX12_much 17 = .ok (.invokevirtual 95, 3) := by decide +kernel
theorem dX12_much_20 : decode cX12_much 20 = .ok (.aload_n 0, 1) := by decide +kernel
theorem dX12_much_21 : decode cX12_much 21 = .ok (.iload_n 1, 1) := by decide +kernel
theorem dX12_much_22 : decode cX12_much 22 = .ok (.iload_n 3, 1) := by decide +kernel
theorem dX12_much_23 : decode cX12_much 23 = .ok (.isub, 1) := by decide +kernel
theorem dX12_much_24 : decode cX12_much 24 = .ok (.invokevirtual 92, 3) := by decide +kernel
theorem dX12_much_27 : decode cX12_much 27 = .ok (.return_, 1) := by decide +kernel
set_option maxRecDepth 20000 in
theorem ggX12_clauseHere_X12_here : GoodIn wsX12_clauseHere wsX12_here := goodIn_r _ [8, 9, 10, 1, 100, 101, 102, 103, 104, 105, 106, 107, 108, 109, 110, 111, 112, 113, 114, 115, 116, 117, 118, 119, 120, 121] (by decide +kernel) (by decide +kernel)
set_option maxRecDepth 20000 in
theorem gX12_clauseHere_X12_here : GoodIn wsX12_clauseHere (wsV RX12 66 RX12 yX12_here wsX12_here) := goodIn_app (goodIn_of _ (by decide +kernel)) ggX12_clauseHere_X12_here
set_option maxRecDepth 20000 in
theorem ggX12_clauseHere_X12_much : GoodIn wsX12_clauseHere wsX12_much := goodIn_r _ [14, 15, 16, 17, 7, 18, 19, 20, 21, 22, 23, 24, 25, 26, 27, 28, 29, 30, 31, 32, 33, 34, 35, 36, 37, 38, 39, 40, 41, 42, 43, 44, 45, 46, 47, 48, 49, 50, 51, 52, 53, 54, 55, 56, 57, 58, 59, 60, 61, 62, 63, 64, 65, 66, 67, 68, 69, 70, 71, 3, 9, 4, 5, 6, 8, 10, 1, 72, 73, 74, 75, 76, 77, 78, 79, 80, 81, 82, 83, 84, 85, 86, 87, 88, 89, 2, 90, 91, 92, 93, 94, 95, 96, 97, 98, 99, 100, 101, 102, 103, 104, 105, 106, 107, 108, 109, 110, 111, 112, 113, 114, 115, 116, 117, 118, 119, 120, 121] (by decide +kernel) (by decide +kernel)
set_option maxRecDepth 20000 in
theorem gX12_clauseHere_X12_much : GoodIn wsX12_clauseHere (wsV RX12 118 RX12 yX12_much wsX12_much) := goodIn_app (goodIn_of _ (by decide +kernel)) ggX12_clauseHere_X12_much
set_option maxRecDepth 20000 in
theorem ggX12_clauseHere_X12_spells : GoodIn wsX12_clauseHere wsX12_spells := goodIn_r _ [18, 19, 20, 21, 22, 23, 24, 25, 26, 27, 28, 29, 30, 31, 32, 33, 34, 35, 36, 37, 38, 39, 40, 41, 42, 43, 44, 45, 46, 47, 48, 49, 50, 51, 52, 53, 54, 55, 56, 57, 58, 59, 60, 61, 62, 63, 64, 65, 66, 67, 68, 69, 70, 7, 71, 3, 9, 4, 5, 6, 8, 10, 1, 100, 101, 102, 103, 104, 105, 106, 107, 108, 109, 110, 111, 112, 113, 114, 115, 116, 117, 118, 119, 120, 121] (by decide +kernel) (by decide +kernel)
set_option maxRecDepth 20000 in
theorem gX12_clauseHere_X12_spells : GoodIn wsX12_clauseHere (wsV RX12 112 RX12 yX12_spells wsX12_spells) := goodIn_app (goodIn_of _ (by decide +kernel)) ggX12_clauseHere_X12_spells
set_option maxRecDepth 20000 in
theorem ggX12_clauseHere_X12_some : GoodIn wsX12_clauseHere wsX12_some := goodIn_r _ [82, 3, 9, 83, 84, 85, 7, 4, 5, 6, 8, 10, 1, 86, 87, 88, 89, 2, 90, 91, 92, 93, 94, 95, 79, 80, 81, 68, 69, 70, 71, 96, 97, 98, 99, 19, 20, 21, 22, 23, 24, 25, 26, 27, 28, 29, 30, 31, 32, 33, 34, 35, 36, 37, 38, 39, 40, 41, 42, 43, 44, 45, 46, 47, 48, 49, 50, 51, 52, 53, 54, 55, 56, 57, 58, 59, 60, 61, 62, 63, 64, 65, 66, 67, 72, 73, 74, 75, 76, 77, 78, 100, 101, 102, 103, 104, 105, 106, 107, 108, 109, 110, 111, 112, 113, 114, 115, 116, 117, 118, 119, 120, 121] (by decide +kernel) (by decide +kernel)
set_option maxRecDepth 20000 in
theorem gX12_clauseHere_X12_some : GoodIn wsX12_clauseHere (wsV RX12 95 RX12 yX12_some wsX12_some) := goodIn_app (goodIn_of _ (by decide +kernel)) ggX12_clauseHere_X12_some
set_option maxRecDepth 20000 in
theorem ggX12_clauseHere_X12_emits : GoodIn wsX12_clauseHere wsX12_emits := goodIn_r _ [89, 3, 1, 2, 100, 101, 102, 103, 104, 105, 106, 107, 108, 109, 110, 111, 112, 113, 114, 115, 116, 117, 118, 119, 120, 121] (by decide +kernel) (by decide +kernel)
set_option maxRecDepth 20000 in
theorem gX12_clauseHere_X12_emits : GoodIn wsX12_clauseHere (wsV RX12 92 RX12 yX12_emits wsX12_emits) := goodIn_app (goodIn_of _ (by decide +kernel)) ggX12_clauseHere_X12_emits
set_option maxRecDepth 20000 in
theorem ggX12_clauseHere_X12_figures : GoodIn wsX12_clauseHere wsX12_figures := goodIn_r _ [75, 3, 9, 4, 5, 6, 7, 8, 10, 1, 76, 77, 78, 100, 101, 102, 103, 104, 105, 106, 107, 108, 109, 110, 111, 112, 113, 114, 115, 116, 117, 118, 119, 120, 121] (by decide +kernel) (by decide +kernel)
set_option maxRecDepth 20000 in
theorem gX12_clauseHere_X12_figures : GoodIn wsX12_clauseHere (wsV RX12 106 RX12 yX12_figures wsX12_figures) := goodIn_app (goodIn_of _ (by decide +kernel)) ggX12_clauseHere_X12_figures
theorem dX12_clauseHere_0 : decode cX12_clauseHere 0 = .ok (.aload_n 0, 1) := by decide +kernel
theorem dX12_clauseHere_1 : decode cX12_clauseHere 1 = .ok (.invokevirtual 66, 3) := by decide +kernel
theorem dX12_clauseHere_4 : decode cX12_clauseHere 4 = .ok (.lookupswitch 138 #[(99, 87), (108, 55), (115, 67), (116, 44)], 44) := by decide +kernel
theorem dX12_clauseHere_48 : decode cX12_clauseHere 48 = .ok (.aload_n 0, 1) := by decide +kernel
theorem dX12_clauseHere_49 : decode cX12_clauseHere 49 = .ok (.bipush (-10), 2) := by decide +kernel
theorem dX12_clauseHere_51 : decode cX12_clauseHere 51 = .ok (.ldc 116, 2) := by decide +kernel
theorem dX12_clauseHere_53 : decode cX12_clauseHere 53 = .ok (.invokevirtual 118, 3) := by decide +kernel
theorem dX12_clauseHere_56 : decode cX12_clauseHere 56 = .ok (.goto 91, 3) := by decide +kernel
theorem dX12_clauseHere_59 : decode cX12_clauseHere 59 = .ok (.aload_n 0, 1) := by decide +kernel
theorem dX12_clauseHere_60 : decode cX12_clauseHere 60 = .ok (.sipush (-200), 3) := by decide +kernel
theorem dX12_clauseHere_63 : decode cX12_clauseHere 63 = .ok (.ldc 122, 2) := by decide +kernel
theorem dX12_clauseHere_65 : decode cX12_clauseHere 65 = .ok (.invokevirtual 118, 3) := by decide +kernel
theorem dX12_clauseHere_68 : decode cX12_clauseHere 68 = .ok (.goto 79, 3) := by decide +kernel
theorem dX12_clauseHere_71 : decode cX12_clauseHere 71 = .ok (.aload_n 0, 1) := by decide +kernel
theorem dX12_clauseHere_72 : decode cX12_clauseHere 72 = .ok (.ldc 124, 2) := by decide +kernel
theorem dX12_clauseHere_74 : decode cX12_clauseHere 74 = .ok (.invokevirtual 112, 3) := by decide +kernel
theorem dX12_clauseHere_77 : decode cX12_clauseHere 77 = .ok (.aload_n 0, 1) := by decide +kernel
theorem dX12_clauseHere_78 : decode cX12_clauseHere 78 = .ok (.invokevirtual 95, 3) := by decide +kernel
theorem dX12_clauseHere_81 : decode cX12_clauseHere 81 = .ok (.aload_n 0, 1) := by decide +kernel
theorem dX12_clauseHere_82 : decode cX12_clauseHere 82 = .ok (.sipush (-400), 3) := by decide +kernel
theorem dX12_clauseHere_85 : decode cX12_clauseHere 85 = .ok (.invokevirtual 92, 3) := by decide +kernel
theorem dX12_clauseHere_88 : decode cX12_clauseHere 88 = .ok (.goto 59, 3) := by decide +kernel
theorem dX12_clauseHere_91 : decode cX12_clauseHere 91 = .ok (.aload_n 0, 1) := by decide +kernel
theorem dX12_clauseHere_92 : decode cX12_clauseHere 92 = .ok (.ldc 126, 2) := by decide +kernel
theorem dX12_clauseHere_94 : decode cX12_clauseHere 94 = .ok (.invokevirtual 112, 3) := by decide +kernel
theorem dX12_clauseHere_97 : decode cX12_clauseHere 97 = .ok (.aload_n 0, 1) := by decide +kernel
theorem dX12_clauseHere_98 : decode cX12_clauseHere 98 = .ok (.invokevirtual 106, 3) := by decide +kernel
theorem dX12_clauseHere_101 : decode cX12_clauseHere 101 = .ok (.istore_n 1, 1) := by decide +kernel
theorem dX12_clauseHere_102 : decode cX12_clauseHere 102 = .ok (.aload_n 0, 1) := by decide +kernel
theorem dX12_clauseHere_103 : decode cX12_clauseHere 103 = .ok (.getfield 9, 3) := by decide +kernel
theorem dX12_clauseHere_106 : decode cX12_clauseHere 106 = .ok (.sipush 242, 3) := by decide +kernel
theorem dX12_clauseHere_109 : decode cX12_clauseHere 109 = .ok (.aload_n 0, 1) := by decide +kernel
theorem dX12_clauseHere_110 : decode cX12_clauseHere 110 = .ok (.getfield 83, 3) := by decide +kernel
theorem dX12_clauseHere_113 : decode cX12_clauseHere 113 = .ok (.iadd, 1) := by decide +kernel
theorem dX12_clauseHere_114 : decode cX12_clauseHere 114 = .ok (.aload_n 0, 1) := by decide +kernel
theorem dX12_clauseHere_115 : decode cX12_clauseHere 115 = .ok (.getfield 62, 3) := by decide +kernel
theorem dX12_clauseHere_118 : decode cX12_clauseHere 118 = .ok (.ifCond .eq 19, 3) := by decide +kernel
theorem dX12_clauseHere_121 : decode cX12_clauseHere 121 = .ok (.aload_n 0, 1) := by decide +kernel
theorem dX12_clauseHere_122 : decode cX12_clauseHere 122 = .ok (.getfield 9, 3) := by decide +kernel
theorem dX12_clauseHere_125 : decode cX12_clauseHere 125 = .ok (.sipush 242, 3) := by decide +kernel
theorem dX12_clauseHere_128 : decode cX12_clauseHere 128 = .ok (.aload_n 0, 1) := by decide +kernel
theorem dX12_clauseHere_129 : decode cX12_clauseHere 129 = .ok (.getfield 83, 3) := by decide +kernel
theorem dX12_clauseHere_132 : decode cX12_clauseHere 132 = .ok (.iadd, 1) := by decide +kernel
theorem dX12_clauseHere_133 : decode cX12_clauseHere 133 = .ok (.iaload, 1) := by decide +kernel
theorem dX12_clauseHere_134 : decode cX12_clauseHere 134 = .ok (.goto 4, 3) := by decide +kernel
theorem dX12_clauseHere_137 : decode cX12_clauseHere 137 = .ok (.iload_n 1, 1) := by decide +kernel
theorem dX12_clauseHere_138 : decode cX12_clauseHere 138 = .ok (.iastore, 1) := by decide +kernel
theorem dX12_clauseHere_139 : decode cX12_clauseHere 139 = .ok (.goto 8, 3) := by decide +kernel
theorem dX12_clauseHere_142 : decode cX12_clauseHere 142 = .ok (.aload_n 0, 1) := by decide +kernel
theorem dX12_clauseHere_143 : decode cX12_clauseHere 143 = .ok (.iconst 1, 1) := by decide +kernel
theorem dX12_clauseHere_144 : decode cX12_clauseHere 144 = .ok (.putfield 62, 3) := by decide +kernel
theorem dX12_clauseHere_147 : decode cX12_clauseHere 147 = .ok (.return_, 1) := by decide +kernel
set_option maxRecDepth 20000 in
theorem ggX12_law_X12_in : GoodIn wsX12_law wsX12_in := goodIn_r _ [10] (by decide +kernel) (by decide +kernel)
set_option maxRecDepth 20000 in
theorem gX12_law_X12_in : GoodIn wsX12_law (va_wsS RX12 32 yX12_in wsX12_in) := goodIn_app (goodIn_of _ (by decide +kernel)) ggX12_law_X12_in
set_option maxRecDepth 20000 in
theorem ggX12_law_X12_clauseHere : GoodIn wsX12_law wsX12_clauseHere := goodIn_r _ [14, 1, 2, 5, 15, 16, 17, 9, 18, 4, 3, 19, 20, 21, 22, 23, 24, 25, 26, 27, 28, 29, 30, 31, 32, 33, 34, 35, 36, 37, 38, 39, 40, 41, 42, 43, 44, 45, 46, 47, 48, 49, 50, 51, 52, 53, 54, 55, 56, 57, 58, 59, 60, 61, 62, 63, 64, 65, 66, 67, 68, 69, 70, 71, 72, 73, 74, 75, 76, 77, 78, 79, 80, 81, 82, 83, 7, 8, 10, 84, 85, 86, 87, 88, 89, 90, 91, 92, 93, 94, 95, 96, 97, 98, 99, 6, 100, 101, 102, 103, 104, 105, 106, 107, 108, 109, 110, 111, 112, 113, 114, 115, 116, 117, 118, 119, 120, 121, 122, 123, 124, 125] (by decide +kernel) (by decide +kernel)
set_option maxRecDepth 20000 in
theorem gX12_law_X12_clauseHere : GoodIn wsX12_law (wsV RX12 128 RX12 yX12_clauseHere wsX12_clauseHere) := goodIn_app (goodIn_of _ (by decide +kernel)) ggX12_law_X12_clauseHere
set_option maxRecDepth 20000 in
theorem ggX12_law_X12_here : GoodIn wsX12_law wsX12_here := goodIn_r _ [18, 4, 3, 1, 104, 105, 106, 107, 108, 109, 110, 111, 112, 113, 114, 115, 116, 117, 118, 119, 120, 121, 122, 123, 124, 125] (by decide +kernel) (by decide +kernel)
set_option maxRecDepth 20000 in
theorem gX12_law_X12_here : GoodIn wsX12_law (wsV RX12 66 RX12 yX12_here wsX12_here) := goodIn_app (goodIn_of _ (by decide +kernel)) ggX12_law_X12_here
theorem dX12_law_0 : decode cX12_law 0 = .ok (.iload_n 1, 1) := by decide +kernel
theorem dX12_law_1 : decode cX12_law 1 = .ok (.iconst 0, 1) := by decide +kernel
theorem dX12_law_2 : decode cX12_law 2 = .ok (.bipush 6, 2) := by decide +kernel
theorem dX12_law_4 : decode cX12_law 4 = .ok (.invokestatic 32, 3) := by decide +kernel
theorem dX12_law_7 : decode cX12_law 7 = .ok (.ifCond .ne 5, 3) := by decide +kernel
theorem dX12_law_10 : decode cX12_law 10 = .ok (.iconst (-1), 1) := by decide +kernel
theorem dX12_law_11 : decode cX12_law 11 = .ok (.ireturn, 1) := by decide +kernel
theorem dX12_law_12 : decode cX12_law 12 = .ok (.iload_n 2, 1) := by decide +kernel
theorem dX12_law_13 : decode cX12_law 13 = .ok (.iconst 0, 1) := by decide +kernel
theorem dX12_law_14 : decode cX12_law 14 = .ok (.bipush 9, 2) := by decide +kernel
theorem dX12_law_16 : decode cX12_law 16 = .ok (.invokestatic 32, 3) := by decide +kernel
theorem dX12_law_19 : decode cX12_law 19 = .ok (.ifCond .ne 6, 3) := by decide +kernel
theorem dX12_law_22 : decode cX12_law 22 = .ok (.bipush (-2), 2) := by decide +kernel
theorem dX12_law_24 : decode cX12_law 24 = .ok (.ireturn, 1) := by decide +kernel
theorem dX12_law_25 : decode cX12_law 25 = .ok (.aload_n 0, 1) := by decide +kernel
theorem dX12_law_26 : decode cX12_law 26 = .ok (.getfield 9, 3) := by decide +kernel
theorem dX12_law_29 : decode cX12_law 29 = .ok (.iconst 2, 1) := by decide +kernel
theorem dX12_law_30 : decode cX12_law 30 = .ok (.iaload, 1) := by decide +kernel
theorem dX12_law_31 : decode cX12_law 31 = .ok (.bipush 8, 2) := by decide +kernel
theorem dX12_law_33 : decode cX12_law 33 = .ok (.if_icmp .ne 6, 3) := by decide +kernel
theorem dX12_law_36 : decode cX12_law 36 = .ok (.bipush (-4), 2) := by decide +kernel
theorem dX12_law_38 : decode cX12_law 38 = .ok (.ireturn, 1) := by decide +kernel
theorem dX12_law_39 : decode cX12_law 39 = .ok (.aload_n 0, 1) := by decide +kernel
theorem dX12_law_40 : decode cX12_law 40 = .ok (.aload_n 0, 1) := by decide +kernel
theorem dX12_law_41 : decode cX12_law 41 = .ok (.getfield 9, 3) := by decide +kernel
theorem dX12_law_44 : decode cX12_law 44 = .ok (.iconst 2, 1) := by decide +kernel
theorem dX12_law_45 : decode cX12_law 45 = .ok (.iaload, 1) := by decide +kernel
theorem dX12_law_46 : decode cX12_law 46 = .ok (.putfield 83, 3) := by decide +kernel
theorem dX12_law_49 : decode cX12_law 49 = .ok (.aload_n 0, 1) := by decide +kernel
theorem dX12_law_50 : decode cX12_law 50 = .ok (.aload_n 0, 1) := by decide +kernel
theorem dX12_law_51 : decode cX12_law 51 = .ok (.getfield 9, 3) := by decide +kernel
theorem dX12_law_54 : decode cX12_law 54 = .ok (.iconst 4, 1) := by decide +kernel
theorem dX12_law_55 : decode cX12_law 55 = .ok (.iaload, 1) := by decide +kernel
theorem dX12_law_56 : decode cX12_law 56 = .ok (.putfield 59, 3) := by decide +kernel
theorem dX12_law_59 : decode cX12_law 59 = .ok (.aload_n 0, 1) := by decide +kernel
theorem dX12_law_60 : decode cX12_law 60 = .ok (.getfield 9, 3) := by decide +kernel
theorem dX12_law_63 : decode cX12_law 63 = .ok (.iconst 4, 1) := by decide +kernel
theorem dX12_law_64 : decode cX12_law 64 = .ok (.iconst 0, 1) := by decide +kernel
theorem dX12_law_65 : decode cX12_law 65 = .ok (.iastore, 1) := by decide +kernel
theorem dX12_law_66 : decode cX12_law 66 = .ok (.aload_n 0, 1) := by decide +kernel
theorem dX12_law_67 : decode cX12_law 67 = .ok (.getfield 9, 3) := by decide +kernel
theorem dX12_law_70 : decode cX12_law 70 = .ok (.sipush 226, 3) := by decide +kernel
theorem dX12_law_73 : decode cX12_law 73 = .ok (.aload_n 0, 1) := by decide +kernel
theorem dX12_law_74 : decode cX12_law 74 = .ok (.getfield 83, 3) := by decide +kernel
theorem dX12_law_77 : decode cX12_law 77 = .ok (.iadd, 1) := by decide +kernel
theorem dX12_law_78 : decode cX12_law 78 = .ok (.iload_n 1, 1) := by decide +kernel
theorem dX12_law_79 : decode cX12_law 79 = .ok (.iastore, 1) := by decide +kernel
theorem dX12_law_80 : decode cX12_law 80 = .ok (.aload_n 0, 1) := by decide +kernel
theorem dX12_law_81 : decode cX12_law 81 = .ok (.getfield 9, 3) := by decide +kernel
theorem dX12_law_84 : decode cX12_law 84 = .ok (.sipush 234, 3) := by decide +kernel
theorem dX12_law_87 : decode cX12_law 87 = .ok (.aload_n 0, 1) := by decide +kernel
theorem dX12_law_88 : decode cX12_law 88 = .ok (.getfield 83, 3) := by decide +kernel
theorem dX12_law_91 : decode cX12_law 91 = .ok (.iadd, 1) := by decide +kernel
theorem dX12_law_92 : decode cX12_law 92 = .ok (.iload_n 2, 1) := by decide +kernel
theorem dX12_law_93 : decode cX12_law 93 = .ok (.iastore, 1) := by decide +kernel
theorem dX12_law_94 : decode cX12_law 94 = .ok (.aload_n 0, 1) := by decide +kernel
theorem dX12_law_95 : decode cX12_law 95 = .ok (.getfield 9, 3) := by decide +kernel
theorem dX12_law_98 : decode cX12_law 98 = .ok (.sipush 242, 3) := by decide +kernel
theorem dX12_law_101 : decode cX12_law 101 = .ok (.aload_n 0, 1) := by decide +kernel
theorem dX12_law_102 : decode cX12_law 102 = .ok (.getfield 83, 3) := by decide +kernel
theorem dX12_law_105 : decode cX12_law 105 = .ok (.iadd, 1) := by decide +kernel
theorem dX12_law_106 : decode cX12_law 106 = .ok (.iconst 0, 1) := by decide +kernel
theorem dX12_law_107 : decode cX12_law 107 = .ok (.iastore, 1) := by decide +kernel
theorem dX12_law_108 : decode cX12_law 108 = .ok (.aload_n 0, 1) := by decide +kernel
theorem dX12_law_109 : decode cX12_law 109 = .ok (.getfield 9, 3) := by decide +kernel
theorem dX12_law_112 : decode cX12_law 112 = .ok (.sipush 250, 3) := by decide +kernel
theorem dX12_law_115 : decode cX12_law 115 = .ok (.aload_n 0, 1) := by decide +kernel
theorem dX12_law_116 : decode cX12_law 116 = .ok (.getfield 83, 3) := by decide +kernel
theorem dX12_law_119 : decode cX12_law 119 = .ok (.iadd, 1) := by decide +kernel
theorem dX12_law_120 : decode cX12_law 120 = .ok (.iconst 0, 1) := by decide +kernel
theorem dX12_law_121 : decode cX12_law 121 = .ok (.iastore, 1) := by decide +kernel
theorem dX12_law_122 : decode cX12_law 122 = .ok (.aload_n 0, 1) := by decide +kernel
theorem dX12_law_123 : decode cX12_law 123 = .ok (.iconst 0, 1) := by decide +kernel
theorem dX12_law_124 : decode cX12_law 124 = .ok (.putfield 56, 3) := by decide +kernel
theorem dX12_law_127 : decode cX12_law 127 = .ok (.aload_n 0, 1) := by decide +kernel
theorem dX12_law_128 : decode cX12_law 128 = .ok (.iconst 0, 1) := by decide +kernel
theorem dX12_law_129 : decode cX12_law 129 = .ok (.putfield 62, 3) := by decide +kernel
theorem dX12_law_132 : decode cX12_law 132 = .ok (.aload_n 0, 1) := by decide +kernel
theorem dX12_law_133 : decode cX12_law 133 = .ok (.iconst 0, 1) := by decide +kernel
theorem dX12_law_134 : decode cX12_law 134 = .ok (.putfield 86, 3) := by decide +kernel
theorem dX12_law_137 : decode cX12_law 137 = .ok (.iconst 1, 1) := by decide +kernel
theorem dX12_law_138 : decode cX12_law 138 = .ok (.istore_n 3, 1) := by decide +kernel
theorem dX12_law_139 : decode cX12_law 139 = .ok (.aload_n 0, 1) := by decide +kernel
theorem dX12_law_140 : decode cX12_law 140 = .ok (.invokevirtual 128, 3) := by decide +kernel
theorem dX12_law_143 : decode cX12_law 143 = .ok (.aload_n 0, 1) := by decide +kernel
theorem dX12_law_144 : decode cX12_law 144 = .ok (.getfield 62, 3) := by decide +kernel
theorem dX12_law_147 : decode cX12_law 147 = .ok (.ifCond .ne 38, 3) := by decide +kernel
theorem dX12_law_150 : decode cX12_law 150 = .ok (.iload_n 3, 1) := by decide +kernel
theorem dX12_law_151 : decode cX12_law 151 = .ok (.bipush 8, 2) := by decide +kernel
theorem dX12_law_153 : decode cX12_law 153 = .ok (.if_icmp .ge 32, 3) := by decide +kernel
theorem dX12_law_156 : decode cX12_law 156 = .ok (.aload_n 0, 1) := by decide +kernel
theorem dX12_law_157 : decode cX12_law 157 = .ok (.invokevirtual 66, 3) := by decide +kernel
theorem dX12_law_160 : decode cX12_law 160 = .ok (.bipush 59, 2) := by decide +kernel
theorem dX12_law_162 : decode cX12_law 162 = .ok (.if_icmp .ne 23, 3) := by decide +kernel
theorem dX12_law_165 : decode cX12_law 165 = .ok (.aload_n 0, 1) := by decide +kernel
theorem dX12_law_166 : decode cX12_law 166 = .ok (.dup, 1) := by decide +kernel
theorem dX12_law_167 : decode cX12_law 167 = .ok (.getfield 56, 3) := by decide +kernel
theorem dX12_law_170 : decode cX12_law 170 = .ok (.iconst 1, 1) := by decide +kernel
theorem dX12_law_171 : decode cX12_law 171 = .ok (.iadd, 1) := by decide +kernel
theorem dX12_law_172 : decode cX12_law 172 = .ok (.putfield 56, 3) := by decide +kernel
theorem dX12_law_175 : decode cX12_law 175 = .ok (.aload_n 0, 1) := by decide +kernel
theorem dX12_law_176 : decode cX12_law 176 = .ok (.invokevirtual 128, 3) := by decide +kernel
theorem dX12_law_179 : decode cX12_law 179 = .ok (.iinc 3 1, 3) := by decide +kernel
theorem dX12_law_182 : decode cX12_law 182 = .ok (.goto (-39), 3) := by decide +kernel
theorem dX12_law_185 : decode cX12_law 185 = .ok (.aload_n 0, 1) := by decide +kernel
theorem dX12_law_186 : decode cX12_law 186 = .ok (.getfield 62, 3) := by decide +kernel
theorem dX12_law_189 : decode cX12_law 189 = .ok (.ifCond .ne 14, 3) := by decide +kernel
theorem dX12_law_192 : decode cX12_law 192 = .ok (.aload_n 0, 1) := by decide +kernel
theorem dX12_law_193 : decode cX12_law 193 = .ok (.getfield 56, 3) := by decide +kernel
theorem dX12_law_196 : decode cX12_law 196 = .ok (.aload_n 0, 1) := by decide +kernel
theorem dX12_law_197 : decode cX12_law 197 = .ok (.getfield 59, 3) := by decide +kernel
theorem dX12_law_200 : decode cX12_law 200 = .ok (.if_icmp .eq 11, 3) := by decide +kernel
theorem dX12_law_203 : decode cX12_law 203 = .ok (.bipush (-10), 2) := by decide +kernel
theorem dX12_law_205 : decode cX12_law 205 = .ok (.aload_n 0, 1) := by decide +kernel
theorem dX12_law_206 : decode cX12_law 206 = .ok (.getfield 56, 3) := by decide +kernel
theorem dX12_law_209 : decode cX12_law 209 = .ok (.isub, 1) := by decide +kernel
theorem dX12_law_210 : decode cX12_law 210 = .ok (.ireturn, 1) := by decide +kernel
theorem dX12_law_211 : decode cX12_law 211 = .ok (.aload_n 0, 1) := by decide +kernel
theorem dX12_law_212 : decode cX12_law 212 = .ok (.getfield 9, 3) := by decide +kernel
theorem dX12_law_215 : decode cX12_law 215 = .ok (.iconst 2, 1) := by decide +kernel
theorem dX12_law_216 : decode cX12_law 216 = .ok (.dup2, 1) := by decide +kernel
theorem dX12_law_217 : decode cX12_law 217 = .ok (.iaload, 1) := by decide +kernel
theorem dX12_law_218 : decode cX12_law 218 = .ok (.iconst 1, 1) := by decide +kernel
theorem dX12_law_219 : decode cX12_law 219 = .ok (.iadd, 1) := by decide +kernel
theorem dX12_law_220 : decode cX12_law 220 = .ok (.iastore, 1) := by decide +kernel
theorem dX12_law_221 : decode cX12_law 221 = .ok (.aload_n 0, 1) := by decide +kernel
theorem dX12_law_222 : decode cX12_law 222 = .ok (.getfield 83, 3) := by decide +kernel
theorem dX12_law_225 : decode cX12_law 225 = .ok (.ireturn, 1) := by decide +kernel
set_option maxRecDepth 20000 in
theorem ggX12_told_X12_isLaw : GoodIn wsX12_told wsX12_isLaw := goodIn_r _ [6, 1, 7, 8, 5, 9, 10, 11, 12, 13, 14, 15, 16, 17, 18, 19, 20, 21, 22, 23, 24, 25, 26, 27, 28, 29, 30, 31] (by decide +kernel) (by decide +kernel)
set_option maxRecDepth 20000 in
theorem gX12_told_X12_isLaw : GoodIn wsX12_told (wsV RX12 36 RX12 yX12_isLaw wsX12_isLaw) := goodIn_app (goodIn_of _ (by decide +kernel)) ggX12_told_X12_isLaw
set_option maxRecDepth 20000 in
theorem ggX12_told_X12_in : GoodIn wsX12_told wsX12_in := goodIn_r _ [9] (by decide +kernel) (by decide +kernel)
set_option maxRecDepth 20000 in
theorem gX12_told_X12_in : GoodIn wsX12_told (va_wsS RX12 32 yX12_in wsX12_in) := goodIn_app (goodIn_of _ (by decide +kernel)) ggX12_told_X12_in
theorem dX12_told_0 : decode cX12_told 0 = .ok (.aload_n 0, 1) := by decide +kernel
theorem dX12_told_1 : decode cX12_told 1 = .ok (.iload_n 1, 1) := by decide +kernel
theorem dX12_told_2 : decode cX12_told 2 = .ok (.invokevirtual 36, 3) := by decide +kernel
theorem dX12_told_5 : decode cX12_told 5 = .ok (.ifCond .eq 30, 3) := by decide +kernel
theorem dX12_told_8 : decode cX12_told 8 = .ok (.iload_n 2, 1) := by decide +kernel
theorem dX12_told_9 : decode cX12_told 9 = .ok (.iconst 0, 1) := by decide +kernel
theorem dX12_told_10 : decode cX12_told 10 = .ok (.iconst 2, 1) := by decide +kernel
theorem dX12_told_11 : decode cX12_told 11 = .ok (.invokestatic 32, 3) := by decide +kernel
theorem dX12_told_14 : decode cX12_told 14 = .ok (.ifCond .eq 21, 3) := by decide +kernel
theorem dX12_told_17 : decode cX12_told 17 = .ok (.aload_n 0, 1) := by decide +kernel
theorem dX12_told_18 : decode cX12_told 18 = .ok (.getfield 9, 3) := by decide +kernel
theorem dX12_told_21 : decode cX12_told 21 = .ok (.sipush 226, 3) := by decide +kernel
theorem dX12_told_24 : decode cX12_told 24 = .ok (.bipush 8, 2) := by decide +kernel
theorem dX12_told_26 : decode cX12_told 26 = .ok (.iload_n 2, 1) := by decide +kernel
theorem dX12_told_27 : decode cX12_told 27 = .ok (.imul, 1) := by decide +kernel
theorem dX12_told_28 : decode cX12_told 28 = .ok (.iadd, 1) := by decide +kernel
theorem dX12_told_29 : decode cX12_told 29 = .ok (.iload_n 1, 1) := by decide +kernel
theorem dX12_told_30 : decode cX12_told 30 = .ok (.iadd, 1) := by decide +kernel
theorem dX12_told_31 : decode cX12_told 31 = .ok (.iaload, 1) := by decide +kernel
theorem dX12_told_32 : decode cX12_told 32 = .ok (.goto 4, 3) := by decide +kernel
theorem dX12_told_35 : decode cX12_told 35 = .ok (.iconst (-1), 1) := by decide +kernel
theorem dX12_told_36 : decode cX12_told 36 = .ok (.ireturn, 1) := by decide +kernel
theorem dX12_looks_0 : decode cX12_looks 0 = .ok (.aload_n 0, 1) := by decide +kernel
theorem dX12_looks_1 : decode cX12_looks 1 = .ok (.iconst 0, 1) := by decide +kernel
theorem dX12_looks_2 : decode cX12_looks 2 = .ok (.putfield 131, 3) := by decide +kernel
theorem dX12_looks_5 : decode cX12_looks 5 = .ok (.aload_n 0, 1) := by decide +kernel
theorem dX12_looks_6 : decode cX12_looks 6 = .ok (.iconst 0, 1) := by decide +kernel
theorem dX12_looks_7 : decode cX12_looks 7 = .ok (.putfield 134, 3) := by decide +kernel
theorem dX12_looks_10 : decode cX12_looks 10 = .ok (.iconst 0, 1) := by decide +kernel
theorem dX12_looks_11 : decode cX12_looks 11 = .ok (.istore_n 2, 1) := by decide +kernel
theorem dX12_looks_12 : decode cX12_looks 12 = .ok (.iconst 0, 1) := by decide +kernel
theorem dX12_looks_13 : decode cX12_looks 13 = .ok (.istore_n 3, 1) := by decide +kernel
theorem dX12_looks_14 : decode cX12_looks 14 = .ok (.sipush 258, 3) := by decide +kernel
theorem dX12_looks_17 : decode cX12_looks 17 = .ok (.sipush 140, 3) := by decide +kernel
theorem dX12_looks_20 : decode cX12_looks 20 = .ok (.iload_n 1, 1) := by decide +kernel
theorem dX12_looks_21 : decode cX12_looks 21 = .ok (.imul, 1) := by decide +kernel
theorem dX12_looks_22 : decode cX12_looks 22 = .ok (.iadd, 1) := by decide +kernel
theorem dX12_looks_23 : decode cX12_looks 23 = .ok (.istore 4, 2) := by decide +kernel
theorem dX12_looks_25 : decode cX12_looks 25 = .ok (.iload 4, 2) := by decide +kernel
theorem dX12_looks_27 : decode cX12_looks 27 = .ok (.sipush 258, 3) := by decide +kernel
theorem dX12_looks_30 : decode cX12_looks 30 = .ok (.sipush 140, 3) := by decide +kernel
theorem dX12_looks_33 : decode cX12_looks 33 = .ok (.iload_n 1, 1) := by decide +kernel
theorem dX12_looks_34 : decode cX12_looks 34 = .ok (.imul, 1) := by decide +kernel
theorem dX12_looks_35 : decode cX12_looks 35 = .ok (.iadd, 1) := by decide +kernel
theorem dX12_looks_36 : decode cX12_looks 36 = .ok (.aload_n 0, 1) := by decide +kernel
theorem dX12_looks_37 : decode cX12_looks 37 = .ok (.getfield 9, 3) := by decide +kernel
theorem dX12_looks_40 : decode cX12_looks 40 = .ok (.sipush 250, 3) := by decide +kernel
theorem dX12_looks_43 : decode cX12_looks 43 = .ok (.iload_n 1, 1) := by decide +kernel
theorem dX12_looks_44 : decode cX12_looks 44 = .ok (.iadd, 1) := by decide +kernel
theorem dX12_looks_45 : decode cX12_looks 45 = .ok (.iaload, 1) := by decide +kernel
theorem dX12_looks_46 : decode cX12_looks 46 = .ok (.iadd, 1) := by decide +kernel
theorem dX12_looks_47 : decode cX12_looks 47 = .ok (.if_icmp .ge 338, 3) := by decide +kernel
theorem dX12_looks_50 : decode cX12_looks 50 = .ok (.aload_n 0, 1) := by decide +kernel
theorem dX12_looks_51 : decode cX12_looks 51 = .ok (.getfield 9, 3) := by decide +kernel
theorem dX12_looks_54 : decode cX12_looks 54 = .ok (.iload 4, 2) := by decide +kernel
theorem dX12_looks_56 : decode cX12_looks 56 = .ok (.iaload, 1) := by decide +kernel
theorem dX12_looks_57 : decode cX12_looks 57 = .ok (.istore 5, 2) := by decide +kernel
theorem dX12_looks_59 : decode cX12_looks 59 = .ok (.iload 5, 2) := by decide +kernel
theorem dX12_looks_61 : decode cX12_looks 61 = .ok (.ifCond .lt 96, 3) := by decide +kernel
theorem dX12_looks_64 : decode cX12_looks 64 = .ok (.aload_n 0, 1) := by decide +kernel
theorem dX12_looks_65 : decode cX12_looks 65 = .ok (.getfield 18, 3) := by decide +kernel
theorem dX12_looks_68 : decode cX12_looks 68 = .ok (.iload 5, 2) := by decide +kernel
theorem dX12_looks_70 : decode cX12_looks 70 = .ok (.bipush 8, 2) := by decide +kernel
theorem dX12_looks_72 : decode cX12_looks 72 = .ok (.irem, 1) := by decide +kernel
theorem dX12_looks_73 : decode cX12_looks 73 = .ok (.iaload, 1) := by decide +kernel
theorem dX12_looks_74 : decode cX12_looks 74 = .ok (.istore 6, 2) := by decide +kernel
theorem dX12_looks_76 : decode cX12_looks 76 = .ok (.iload 5, 2) := by decide +kernel
theorem dX12_looks_78 : decode cX12_looks 78 = .ok (.bipush 8, 2) := by decide +kernel
theorem dX12_looks_80 : decode cX12_looks 80 = .ok (.idiv, 1) := by decide +kernel
theorem dX12_looks_81 : decode cX12_looks 81 = .ok (.iconst 4, 1) := by decide +kernel
theorem dX12_looks_82 : decode cX12_looks 82 = .ok (.irem, 1) := by decide +kernel
theorem dX12_looks_83 : decode cX12_looks 83 = .ok (.istore 7, 2) := by decide +kernel
theorem dX12_looks_85 : decode cX12_looks 85 = .ok (.iload 5, 2) := by decide +kernel
theorem dX12_looks_87 : decode cX12_looks 87 = .ok (.bipush 32, 2) := by decide +kernel
theorem dX12_looks_89 : decode cX12_looks 89 = .ok (.idiv, 1) := by decide +kernel
theorem dX12_looks_90 : decode cX12_looks 90 = .ok (.istore 8, 2) := by decide +kernel
theorem dX12_looks_92 : decode cX12_looks 92 = .ok (.aload_n 0, 1) := by decide +kernel
theorem dX12_looks_93 : decode cX12_looks 93 = .ok (.getfield 21, 3) := by decide +kernel
theorem dX12_looks_96 : decode cX12_looks 96 = .ok (.iload_n 3, 1) := by decide +kernel
theorem dX12_looks_97 : decode cX12_looks 97 = .ok (.iload 7, 2) := by decide +kernel
theorem dX12_looks_99 : decode cX12_looks 99 = .ok (.ifCond .ne 18, 3) := by decide +kernel
theorem dX12_looks_102 : decode cX12_looks 102 = .ok (.iload 6, 2) := by decide +kernel
theorem dX12_looks_104 : decode cX12_looks 104 = .ok (.iload 8, 2) := by decide +kernel
theorem dX12_looks_106 : decode cX12_looks 106 = .ok (.if_icmp .ge 7, 3) := by decide +kernel
theorem dX12_looks_109 : decode cX12_looks 109 = .ok (.iconst 1, 1) := by decide +kernel
theorem dX12_looks_110 : decode cX12_looks 110 = .ok (.goto 40, 3) := by decide +kernel
theorem dX12_looks_113 : decode cX12_looks 113 = .ok (.iconst 0, 1) := by decide +kernel
theorem dX12_looks_114 : decode cX12_looks 114 = .ok (.goto 36, 3) := by decide +kernel
theorem dX12_looks_117 : decode cX12_looks 117 = .ok (.iload 7, 2) := by decide +kernel
theorem dX12_looks_119 : decode cX12_looks 119 = .ok (.iconst 1, 1) := by decide +kernel
theorem dX12_looks_120 : decode cX12_looks 120 = .ok (.if_icmp .ne 18, 3) := by decide +kernel
theorem dX12_looks_123 : decode cX12_looks 123 = .ok (.iload 6, 2) := by decide +kernel
theorem dX12_looks_125 : decode cX12_looks 125 = .ok (.iload 8, 2) := by decide +kernel
theorem dX12_looks_127 : decode cX12_looks 127 = .ok (.if_icmp .ne 7, 3) := by decide +kernel
theorem dX12_looks_130 : decode cX12_looks 130 = .ok (.iconst 1, 1) := by decide +kernel
theorem dX12_looks_131 : decode cX12_looks 131 = .ok (.goto 19, 3) := by decide +kernel
theorem dX12_looks_134 : decode cX12_looks 134 = .ok (.iconst 0, 1) := by decide +kernel
theorem dX12_looks_135 : decode cX12_looks 135 = .ok (.goto 15, 3) := by decide +kernel
theorem dX12_looks_138 : decode cX12_looks 138 = .ok (.iload 6, 2) := by decide +kernel
theorem dX12_looks_140 : decode cX12_looks 140 = .ok (.iload 8, 2) := by decide +kernel
theorem dX12_looks_142 : decode cX12_looks 142 = .ok (.if_icmp .le 7, 3) := by decide +kernel
theorem dX12_looks_145 : decode cX12_looks 145 = .ok (.iconst 1, 1) := by decide +kernel
theorem dX12_looks_146 : decode cX12_looks 146 = .ok (.goto 4, 3) := by decide +kernel
theorem dX12_looks_149 : decode cX12_looks 149 = .ok (.iconst 0, 1) := by decide +kernel
theorem dX12_looks_150 : decode cX12_looks 150 = .ok (.bastore, 1) := by decide +kernel
theorem dX12_looks_151 : decode cX12_looks 151 = .ok (.iinc 3 1, 3) := by decide +kernel
theorem dX12_looks_154 : decode cX12_looks 154 = .ok (.goto 225, 3) := by decide +kernel
theorem dX12_looks_157 : decode cX12_looks 157 = .ok (.iload 5, 2) := by decide +kernel
theorem dX12_looks_159 : decode cX12_looks 159 = .ok (.iconst (-1), 1) := by decide +kernel
theorem dX12_looks_160 : decode cX12_looks 160 = .ok (.if_icmp .ne 30, 3) := by decide +kernel
theorem dX12_looks_163 : decode cX12_looks 163 = .ok (.aload_n 0, 1) := by decide +kernel
theorem dX12_looks_164 : decode cX12_looks 164 = .ok (.getfield 21, 3) := by decide +kernel
theorem dX12_looks_167 : decode cX12_looks 167 = .ok (.iload_n 3, 1) := by decide +kernel
theorem dX12_looks_168 : decode cX12_looks 168 = .ok (.iconst 1, 1) := by decide +kernel
theorem dX12_looks_169 : decode cX12_looks 169 = .ok (.isub, 1) := by decide +kernel
theorem dX12_looks_170 : decode cX12_looks 170 = .ok (.aload_n 0, 1) := by decide +kernel
theorem dX12_looks_171 : decode cX12_looks 171 = .ok (.getfield 21, 3) := by decide +kernel
theorem dX12_looks_174 : decode cX12_looks 174 = .ok (.iload_n 3, 1) := by decide +kernel
theorem dX12_looks_175 : decode cX12_looks 175 = .ok (.iconst 1, 1) := by decide +kernel
theorem dX12_looks_176 : decode cX12_looks 176 = .ok (.isub, 1) := by decide +kernel
theorem dX12_looks_177 : decode cX12_looks 177 = .ok (.baload, 1) := by decide +kernel
theorem dX12_looks_178 : decode cX12_looks 178 = .ok (.ifCond .ne 7, 3) := by decide +kernel
theorem dX12_looks_181 : decode cX12_looks 181 = .ok (.iconst 1, 1) := by decide +kernel
theorem dX12_looks_182 : decode cX12_looks 182 = .ok (.goto 4, 3) := by decide +kernel
theorem dX12_looks_185 : decode cX12_looks 185 = .ok (.iconst 0, 1) := by decide +kernel
theorem dX12_looks_186 : decode cX12_looks 186 = .ok (.bastore, 1) := by decide +kernel
theorem dX12_looks_187 : decode cX12_looks 187 = .ok (.goto 192, 3) := by decide +kernel
theorem dX12_looks_190 : decode cX12_looks 190 = .ok (.iload 5, 2) := by decide +kernel
theorem dX12_looks_192 : decode cX12_looks 192 = .ok (.bipush (-10), 2) := by decide +kernel
theorem dX12_looks_194 : decode cX12_looks 194 = .ok (.if_icmp .le 77, 3) := by decide +kernel
theorem dX12_looks_197 : decode cX12_looks 197 = .ok (.iinc 3 (-1), 3) := by decide +kernel
theorem dX12_looks_200 : decode cX12_looks 200 = .ok (.aload_n 0, 1) := by decide +kernel
theorem dX12_looks_201 : decode cX12_looks 201 = .ok (.getfield 21, 3) := by decide +kernel
theorem dX12_looks_204 : decode cX12_looks 204 = .ok (.iload_n 3, 1) := by decide +kernel
theorem dX12_looks_205 : decode cX12_looks 205 = .ok (.iconst 1, 1) := by decide +kernel
theorem dX12_looks_206 : decode cX12_looks 206 = .ok (.isub, 1) := by decide +kernel
theorem dX12_looks_207 : decode cX12_looks 207 = .ok (.iload 5, 2) := by decide +kernel
theorem dX12_looks_209 : decode cX12_looks 209 = .ok (.bipush (-2), 2) := by decide +kernel
theorem dX12_looks_211 : decode cX12_looks 211 = .ok (.if_icmp .ne 31, 3) := by decide +kernel
theorem dX12_looks_214 : decode cX12_looks 214 = .ok (.aload_n 0, 1) := by decide +kernel
theorem dX12_looks_215 : decode cX12_looks 215 = .ok (.getfield 21, 3) := by decide +kernel
theorem dX12_looks_218 : decode cX12_looks 218 = .ok (.iload_n 3, 1) := by decide +kernel
theorem dX12_looks_219 : decode cX12_looks 219 = .ok (.iconst 1, 1) := by decide +kernel
theorem dX12_looks_220 : decode cX12_looks 220 = .ok (.isub, 1) := by decide +kernel
theorem dX12_looks_221 : decode cX12_looks 221 = .ok (.baload, 1) := by decide +kernel
theorem dX12_looks_222 : decode cX12_looks 222 = .ok (.ifCond .eq 16, 3) := by decide +kernel
theorem dX12_looks_225 : decode cX12_looks 225 = .ok (.aload_n 0, 1) := by decide +kernel
theorem dX12_looks_226 : decode cX12_looks 226 = .ok (.getfield 21, 3) := by decide +kernel
theorem dX12_looks_229 : decode cX12_looks 229 = .ok (.iload_n 3, 1) := by decide +kernel
theorem dX12_looks_230 : decode cX12_looks 230 = .ok (.baload, 1) := by decide +kernel
theorem dX12_looks_231 : decode cX12_looks 231 = .ok (.ifCond .eq 7, 3) := by decide +kernel
theorem dX12_looks_234 : decode cX12_looks 234 = .ok (.iconst 1, 1) := by decide +kernel
theorem dX12_looks_235 : decode cX12_looks 235 = .ok (.goto 32, 3) := by decide +kernel
theorem dX12_looks_238 : decode cX12_looks 238 = .ok (.iconst 0, 1) := by decide +kernel
theorem dX12_looks_239 : decode cX12_looks 239 = .ok (.goto 28, 3) := by decide +kernel
theorem dX12_looks_242 : decode cX12_looks 242 = .ok (.aload_n 0, 1) := by decide +kernel
theorem dX12_looks_243 : decode cX12_looks 243 = .ok (.getfield 21, 3) := by decide +kernel
theorem dX12_looks_246 : decode cX12_looks 246 = .ok (.iload_n 3, 1) := by decide +kernel
theorem dX12_looks_247 : decode cX12_looks 247 = .ok (.iconst 1, 1) := by decide +kernel
theorem dX12_looks_248 : decode cX12_looks 248 = .ok (.isub, 1) := by decide +kernel
theorem dX12_looks_249 : decode cX12_looks 249 = .ok (.baload, 1) := by decide +kernel
theorem dX12_looks_250 : decode cX12_looks 250 = .ok (.ifCond .ne 12, 3) := by decide +kernel
theorem dX12_looks_253 : decode cX12_looks 253 = .ok (.aload_n 0, 1) := by decide +kernel
theorem dX12_looks_254 : decode cX12_looks 254 = .ok (.getfield 21, 3) := by decide +kernel
theorem dX12_looks_257 : decode cX12_looks 257 = .ok (.iload_n 3, 1) := by decide +kernel
theorem dX12_looks_258 : decode cX12_looks 258 = .ok (.baload, 1) := by decide +kernel
theorem dX12_looks_259 : decode cX12_looks 259 = .ok (.ifCond .eq 7, 3) := by decide +kernel
theorem dX12_looks_262 : decode cX12_looks 262 = .ok (.iconst 1, 1) := by decide +kernel
theorem dX12_looks_263 : decode cX12_looks 263 = .ok (.goto 4, 3) := by decide +kernel
theorem dX12_looks_266 : decode cX12_looks 266 = .ok (.iconst 0, 1) := by decide +kernel
theorem dX12_looks_267 : decode cX12_looks 267 = .ok (.bastore, 1) := by decide +kernel
theorem dX12_looks_268 : decode cX12_looks 268 = .ok (.goto 111, 3) := by decide +kernel
theorem dX12_looks_271 : decode cX12_looks 271 = .ok (.iconst 0, 1) := by decide +kernel
theorem dX12_looks_272 : decode cX12_looks 272 = .ok (.istore_n 3, 1) := by decide +kernel
theorem dX12_looks_273 : decode cX12_looks 273 = .ok (.iload_n 2, 1) := by decide +kernel
theorem dX12_looks_274 : decode cX12_looks 274 = .ok (.ifCond .ne 20, 3) := by decide +kernel
theorem dX12_looks_277 : decode cX12_looks 277 = .ok (.iload 5, 2) := by decide +kernel
theorem dX12_looks_279 : decode cX12_looks 279 = .ok (.sipush (-400), 3) := by decide +kernel
theorem dX12_looks_282 : decode cX12_looks 282 = .ok (.if_icmp .ne 16, 3) := by decide +kernel
theorem dX12_looks_285 : decode cX12_looks 285 = .ok (.aload_n 0, 1) := by decide +kernel
theorem dX12_looks_286 : decode cX12_looks 286 = .ok (.getfield 21, 3) := by decide +kernel
theorem dX12_looks_289 : decode cX12_looks 289 = .ok (.iconst 0, 1) := by decide +kernel
theorem dX12_looks_290 : decode cX12_looks 290 = .ok (.baload, 1) := by decide +kernel
theorem dX12_looks_291 : decode cX12_looks 291 = .ok (.ifCond .eq 7, 3) := by decide +kernel
theorem dX12_looks_294 : decode cX12_looks 294 = .ok (.iconst 1, 1) := by decide +kernel
theorem dX12_looks_295 : decode cX12_looks 295 = .ok (.goto 4, 3) := by decide +kernel
theorem dX12_looks_298 : decode cX12_looks 298 = .ok (.iconst 0, 1) := by decide +kernel
theorem dX12_looks_299 : decode cX12_looks 299 = .ok (.istore_n 2, 1) := by decide +kernel
theorem dX12_looks_300 : decode cX12_looks 300 = .ok (.aload_n 0, 1) := by decide +kernel
theorem dX12_looks_301 : decode cX12_looks 301 = .ok (.dup, 1) := by decide +kernel
theorem dX12_looks_302 : decode cX12_looks 302 = .ok (.getfield 131, 3) := by decide +kernel
theorem dX12_looks_305 : decode cX12_looks 305 = .ok (.aload_n 0, 1) := by decide +kernel
theorem dX12_looks_306 : decode cX12_looks 306 = .ok (.getfield 21, 3) := by decide +kernel
theorem dX12_looks_309 : decode cX12_looks 309 = .ok (.iconst 0, 1) := by decide +kernel
theorem dX12_looks_310 : decode cX12_looks 310 = .ok (.baload, 1) := by decide +kernel
theorem dX12_looks_311 : decode cX12_looks 311 = .ok (.ifCond .eq 19, 3) := by decide +kernel
theorem dX12_looks_314 : decode cX12_looks 314 = .ok (.iload 5, 2) := by decide +kernel
theorem dX12_looks_316 : decode cX12_looks 316 = .ok (.sipush (-200), 3) := by decide +kernel
theorem dX12_looks_319 : decode cX12_looks 319 = .ok (.if_icmp .le 11, 3) := by decide +kernel
theorem dX12_looks_322 : decode cX12_looks 322 = .ok (.bipush (-10), 2) := by decide +kernel
theorem dX12_looks_324 : decode cX12_looks 324 = .ok (.iload 5, 2) := by decide +kernel
theorem dX12_looks_326 : decode cX12_looks 326 = .ok (.isub, 1) := by decide +kernel
theorem dX12_looks_327 : decode cX12_looks 327 = .ok (.goto 4, 3) := by decide +kernel
theorem dX12_looks_330 : decode cX12_looks 330 = .ok (.iconst 0, 1) := by decide +kernel
theorem dX12_looks_331 : decode cX12_looks 331 = .ok (.iadd, 1) := by decide +kernel
theorem dX12_looks_332 : decode cX12_looks 332 = .ok (.putfield 131, 3) := by decide +kernel
theorem dX12_looks_335 : decode cX12_looks 335 = .ok (.aload_n 0, 1) := by decide +kernel
theorem dX12_looks_336 : decode cX12_looks 336 = .ok (.dup, 1) := by decide +kernel
theorem dX12_looks_337 : decode cX12_looks 337 = .ok (.getfield 134, 3) := by decide +kernel
theorem dX12_looks_340 : decode cX12_looks 340 = .ok (.aload_n 0, 1) := by decide +kernel
theorem dX12_looks_341 : decode cX12_looks 341 = .ok (.getfield 21, 3) := by decide +kernel
theorem dX12_looks_344 : decode cX12_looks 344 = .ok (.iconst 0, 1) := by decide +kernel
theorem dX12_looks_345 : decode cX12_looks 345 = .ok (.baload, 1) := by decide +kernel
theorem dX12_looks_346 : decode cX12_looks 346 = .ok (.ifCond .eq 28, 3) := by decide +kernel
theorem dX12_looks_349 : decode cX12_looks 349 = .ok (.iload 5, 2) := by decide +kernel
theorem dX12_looks_351 : decode cX12_looks 351 = .ok (.sipush (-200), 3) := by decide +kernel
theorem dX12_looks_354 : decode cX12_looks 354 = .ok (.if_icmp .gt 20, 3) := by decide +kernel
theorem dX12_looks_357 : decode cX12_looks 357 = .ok (.iload 5, 2) := by decide +kernel
theorem dX12_looks_359 : decode cX12_looks 359 = .ok (.sipush (-400), 3) := by decide +kernel
theorem dX12_looks_362 : decode cX12_looks 362 = .ok (.if_icmp .le 12, 3) := by decide +kernel
theorem dX12_looks_365 : decode cX12_looks 365 = .ok (.sipush (-200), 3) := by decide +kernel
theorem dX12_looks_368 : decode cX12_looks 368 = .ok (.iload 5, 2) := by decide +kernel
theorem dX12_looks_370 : decode cX12_looks 370 = .ok (.isub, 1) := by decide +kernel
theorem dX12_looks_371 : decode cX12_looks 371 = .ok (.goto 4, 3) := by decide +kernel
theorem dX12_looks_374 : decode cX12_looks 374 = .ok (.iconst 0, 1) := by decide +kernel
theorem dX12_looks_375 : decode cX12_looks 375 = .ok (.iadd, 1) := by decide +kernel
theorem dX12_looks_376 : decode cX12_looks 376 = .ok (.putfield 134, 3) := by decide +kernel
theorem dX12_looks_379 : decode cX12_looks 379 = .ok (.iinc 4 1, 3) := by decide +kernel
theorem dX12_looks_382 : decode cX12_looks 382 = .ok (.goto (-357), 3) := by decide +kernel
theorem dX12_looks_385 : decode cX12_looks 385 = .ok (.aload_n 0, 1) := by decide +kernel
theorem dX12_looks_386 : decode cX12_looks 386 = .ok (.iload_n 2, 1) := by decide +kernel
theorem dX12_looks_387 : decode cX12_looks 387 = .ok (.ifCond .eq 7, 3) := by decide +kernel
theorem dX12_looks_390 : decode cX12_looks 390 = .ok (.iconst 0, 1) := by decide +kernel
theorem dX12_looks_391 : decode cX12_looks 391 = .ok (.goto 7, 3) := by decide +kernel
theorem dX12_looks_394 : decode cX12_looks 394 = .ok (.aload_n 0, 1) := by decide +kernel
theorem dX12_looks_395 : decode cX12_looks 395 = .ok (.getfield 131, 3) := by decide +kernel
theorem dX12_looks_398 : decode cX12_looks 398 = .ok (.putfield 131, 3) := by decide +kernel
theorem dX12_looks_401 : decode cX12_looks 401 = .ok (.aload_n 0, 1) := by decide +kernel
theorem dX12_looks_402 : decode cX12_looks 402 = .ok (.aload_n 0, 1) := by decide +kernel
theorem dX12_looks_403 : decode cX12_looks 403 = .ok (.getfield 134, 3) := by decide +kernel
theorem dX12_looks_406 : decode cX12_looks 406 = .ok (.bipush 49, 2) := by decide +kernel
theorem dX12_looks_408 : decode cX12_looks 408 = .ok (.if_icmp .le 8, 3) := by decide +kernel
theorem dX12_looks_411 : decode cX12_looks 411 = .ok (.bipush 49, 2) := by decide +kernel
theorem dX12_looks_413 : decode cX12_looks 413 = .ok (.goto 7, 3) := by decide +kernel
theorem dX12_looks_416 : decode cX12_looks 416 = .ok (.aload_n 0, 1) := by decide +kernel
theorem dX12_looks_417 : decode cX12_looks 417 = .ok (.getfield 134, 3) := by decide +kernel
theorem dX12_looks_420 : decode cX12_looks 420 = .ok (.putfield 134, 3) := by decide +kernel
theorem dX12_looks_423 : decode cX12_looks 423 = .ok (.return_, 1) := by decide +kernel
theorem dX12_sideAt_0 : decode cX12_sideAt 0 = .ok (.aload_n 0, 1) := by decide +kernel
theorem dX12_sideAt_1 : decode cX12_sideAt 1 = .ok (.getfield 9, 3) := by decide +kernel
theorem dX12_sideAt_4 : decode cX12_sideAt 4 = .ok (.sipush 234, 3) := by decide +kernel
theorem dX12_sideAt_7 : decode cX12_sideAt 7 = .ok (.iload_n 1, 1) := by decide +kernel
theorem dX12_sideAt_8 : decode cX12_sideAt 8 = .ok (.iadd, 1) := by decide +kernel
theorem dX12_sideAt_9 : decode cX12_sideAt 9 = .ok (.iaload, 1) := by decide +kernel
theorem dX12_sideAt_10 : decode cX12_sideAt 10 = .ok (.istore 5, 2) := by decide +kernel
theorem dX12_sideAt_12 : decode cX12_sideAt 12 = .ok (.aload_n 0, 1) := by decide +kernel
theorem dX12_sideAt_13 : decode cX12_sideAt 13 = .ok (.getfield 137, 3) := by decide +kernel
theorem dX12_sideAt_16 : decode cX12_sideAt 16 = .ok (.bipush 50, 2) := by decide +kernel
theorem dX12_sideAt_18 : decode cX12_sideAt 18 = .ok (.if_icmp .ge 7, 3) := by decide +kernel
theorem dX12_sideAt_21 : decode cX12_sideAt 21 = .ok (.iload_n 3, 1) := by decide +kernel
theorem dX12_sideAt_22 : decode cX12_sideAt 22 = .ok (.goto 6, 3) := by decide +kernel
theorem dX12_sideAt_25 : decode cX12_sideAt 25 = .ok (.iconst 1, 1) := by decide +kernel
theorem dX12_sideAt_26 : decode cX12_sideAt 26 = .ok (.iload_n 3, 1) := by decide +kernel
theorem dX12_sideAt_27 : decode cX12_sideAt 27 = .ok (.isub, 1) := by decide +kernel
theorem dX12_sideAt_28 : decode cX12_sideAt 28 = .ok (.istore 6, 2) := by decide +kernel
theorem dX12_sideAt_30 : decode cX12_sideAt 30 = .ok (.aload_n 0, 1) := by decide +kernel
theorem dX12_sideAt_31 : decode cX12_sideAt 31 = .ok (.getfield 137, 3) := by decide +kernel
theorem dX12_sideAt_34 : decode cX12_sideAt 34 = .ok (.bipush 50, 2) := by decide +kernel
theorem dX12_sideAt_36 : decode cX12_sideAt 36 = .ok (.aload_n 0, 1) := by decide +kernel
theorem dX12_sideAt_37 : decode cX12_sideAt 37 = .ok (.getfield 134, 3) := by decide +kernel
theorem dX12_sideAt_40 : decode cX12_sideAt 40 = .ok (.iadd, 1) := by decide +kernel
theorem dX12_sideAt_41 : decode cX12_sideAt 41 = .ok (.if_icmp .ge 7, 3) := by decide +kernel
theorem dX12_sideAt_44 : decode cX12_sideAt 44 = .ok (.iload_n 3, 1) := by decide +kernel
theorem dX12_sideAt_45 : decode cX12_sideAt 45 = .ok (.goto 6, 3) := by decide +kernel
theorem dX12_sideAt_48 : decode cX12_sideAt 48 = .ok (.iconst 1, 1) := by decide +kernel
theorem dX12_sideAt_49 : decode cX12_sideAt 49 = .ok (.iload_n 3, 1) := by decide +kernel
theorem dX12_sideAt_50 : decode cX12_sideAt 50 = .ok (.isub, 1) := by decide +kernel
theorem dX12_sideAt_51 : decode cX12_sideAt 51 = .ok (.istore 7, 2) := by decide +kernel
theorem dX12_sideAt_53 : decode cX12_sideAt 53 = .ok (.aload_n 0, 1) := by decide +kernel
theorem dX12_sideAt_54 : decode cX12_sideAt 54 = .ok (.getfield 9, 3) := by decide +kernel
theorem dX12_sideAt_57 : decode cX12_sideAt 57 = .ok (.sipush 226, 3) := by decide +kernel
theorem dX12_sideAt_60 : decode cX12_sideAt 60 = .ok (.iload_n 1, 1) := by decide +kernel
theorem dX12_sideAt_61 : decode cX12_sideAt 61 = .ok (.iadd, 1) := by decide +kernel
theorem dX12_sideAt_62 : decode cX12_sideAt 62 = .ok (.iaload, 1) := by decide +kernel
theorem dX12_sideAt_63 : decode cX12_sideAt 63 = .ok (.tableswitch 159 1 6 #[37, 40, 59, 82, 138, 43], 37) := by decide +kernel
theorem dX12_sideAt_100 : decode cX12_sideAt 100 = .ok (.iload 6, 2) := by decide +kernel
theorem dX12_sideAt_102 : decode cX12_sideAt 102 = .ok (.ireturn, 1) := by decide +kernel
theorem dX12_sideAt_103 : decode cX12_sideAt 103 = .ok (.iload 7, 2) := by decide +kernel
theorem dX12_sideAt_105 : decode cX12_sideAt 105 = .ok (.ireturn, 1) := by decide +kernel
theorem dX12_sideAt_106 : decode cX12_sideAt 106 = .ok (.aload_n 0, 1) := by decide +kernel
theorem dX12_sideAt_107 : decode cX12_sideAt 107 = .ok (.getfield 134, 3) := by decide +kernel
theorem dX12_sideAt_110 : decode cX12_sideAt 110 = .ok (.iload 5, 2) := by decide +kernel
theorem dX12_sideAt_112 : decode cX12_sideAt 112 = .ok (.if_icmp .lt 7, 3) := by decide +kernel
theorem dX12_sideAt_115 : decode cX12_sideAt 115 = .ok (.iload_n 3, 1) := by decide +kernel
theorem dX12_sideAt_116 : decode cX12_sideAt 116 = .ok (.goto 5, 3) := by decide +kernel
theorem dX12_sideAt_119 : decode cX12_sideAt 119 = .ok (.iload 7, 2) := by decide +kernel
theorem dX12_sideAt_121 : decode cX12_sideAt 121 = .ok (.ireturn, 1) := by decide +kernel
theorem dX12_sideAt_122 : decode cX12_sideAt 122 = .ok (.iload 4, 2) := by decide +kernel
theorem dX12_sideAt_124 : decode cX12_sideAt 124 = .ok (.ifCond .eq 18, 3) := by decide +kernel
theorem dX12_sideAt_127 : decode cX12_sideAt 127 = .ok (.iload 5, 2) := by decide +kernel
theorem dX12_sideAt_129 : decode cX12_sideAt 129 = .ok (.iconst 2, 1) := by decide +kernel
theorem dX12_sideAt_130 : decode cX12_sideAt 130 = .ok (.irem, 1) := by decide +kernel
theorem dX12_sideAt_131 : decode cX12_sideAt 131 = .ok (.iconst 1, 1) := by decide +kernel
theorem dX12_sideAt_132 : decode cX12_sideAt 132 = .ok (.if_icmp .ne 10, 3) := by decide +kernel
theorem dX12_sideAt_135 : decode cX12_sideAt 135 = .ok (.iconst 1, 1) := by decide +kernel
theorem dX12_sideAt_136 : decode cX12_sideAt 136 = .ok (.iload 6, 2) := by decide +kernel
theorem dX12_sideAt_138 : decode cX12_sideAt 138 = .ok (.isub, 1) := by decide +kernel
theorem dX12_sideAt_139 : decode cX12_sideAt 139 = .ok (.goto 5, 3) := by decide +kernel
theorem dX12_sideAt_142 : decode cX12_sideAt 142 = .ok (.iload 6, 2) := by decide +kernel
theorem dX12_sideAt_144 : decode cX12_sideAt 144 = .ok (.ireturn, 1) := by decide +kernel
theorem dX12_sideAt_145 : decode cX12_sideAt 145 = .ok (.iload 4, 2) := by decide +kernel
theorem dX12_sideAt_147 : decode cX12_sideAt 147 = .ok (.ifCond .eq 33, 3) := by decide +kernel
theorem dX12_sideAt_150 : decode cX12_sideAt 150 = .ok (.iload 5, 2) := by decide +kernel
theorem dX12_sideAt_152 : decode cX12_sideAt 152 = .ok (.iconst 2, 1) := by decide +kernel
theorem dX12_sideAt_153 : decode cX12_sideAt 153 = .ok (.irem, 1) := by decide +kernel
theorem dX12_sideAt_154 : decode cX12_sideAt 154 = .ok (.iload 5, 2) := by decide +kernel
theorem dX12_sideAt_156 : decode cX12_sideAt 156 = .ok (.ifCond .ne 7, 3) := by decide +kernel
theorem dX12_sideAt_159 : decode cX12_sideAt 159 = .ok (.iconst 0, 1) := by decide +kernel
theorem dX12_sideAt_160 : decode cX12_sideAt 160 = .ok (.goto 16, 3) := by decide +kernel
theorem dX12_sideAt_163 : decode cX12_sideAt 163 = .ok (.aload_n 0, 1) := by decide +kernel
theorem dX12_sideAt_164 : decode cX12_sideAt 164 = .ok (.getfield 9, 3) := by decide +kernel
theorem dX12_sideAt_167 : decode cX12_sideAt 167 = .ok (.sipush 136, 3) := by decide +kernel
theorem dX12_sideAt_170 : decode cX12_sideAt 170 = .ok (.iload_n 2, 1) := by decide +kernel
theorem dX12_sideAt_171 : decode cX12_sideAt 171 = .ok (.iadd, 1) := by decide +kernel
theorem dX12_sideAt_172 : decode cX12_sideAt 172 = .ok (.iaload, 1) := by decide +kernel
theorem dX12_sideAt_173 : decode cX12_sideAt 173 = .ok (.iload 5, 2) := by decide +kernel
theorem dX12_sideAt_175 : decode cX12_sideAt 175 = .ok (.idiv, 1) := by decide +kernel
theorem dX12_sideAt_176 : decode cX12_sideAt 176 = .ok (.iadd, 1) := by decide +kernel
theorem dX12_sideAt_177 : decode cX12_sideAt 177 = .ok (.goto 4, 3) := by decide +kernel
theorem dX12_sideAt_180 : decode cX12_sideAt 180 = .ok (.iconst 0, 1) := by decide +kernel
theorem dX12_sideAt_181 : decode cX12_sideAt 181 = .ok (.istore 8, 2) := by decide +kernel
theorem dX12_sideAt_183 : decode cX12_sideAt 183 = .ok (.iload 8, 2) := by decide +kernel
theorem dX12_sideAt_185 : decode cX12_sideAt 185 = .ok (.iconst 2, 1) := by decide +kernel
theorem dX12_sideAt_186 : decode cX12_sideAt 186 = .ok (.irem, 1) := by decide +kernel
theorem dX12_sideAt_187 : decode cX12_sideAt 187 = .ok (.iconst 1, 1) := by decide +kernel
theorem dX12_sideAt_188 : decode cX12_sideAt 188 = .ok (.if_icmp .ne 10, 3) := by decide +kernel
theorem dX12_sideAt_191 : decode cX12_sideAt 191 = .ok (.iconst 1, 1) := by decide +kernel
theorem dX12_sideAt_192 : decode cX12_sideAt 192 = .ok (.iload 6, 2) := by decide +kernel
theorem dX12_sideAt_194 : decode cX12_sideAt 194 = .ok (.isub, 1) := by decide +kernel
theorem dX12_sideAt_195 : decode cX12_sideAt 195 = .ok (.goto 5, 3) := by decide +kernel
theorem dX12_sideAt_198 : decode cX12_sideAt 198 = .ok (.iload 6, 2) := by decide +kernel
theorem dX12_sideAt_200 : decode cX12_sideAt 200 = .ok (.ireturn, 1) := by decide +kernel
theorem dX12_sideAt_201 : decode cX12_sideAt 201 = .ok (.aload_n 0, 1) := by decide +kernel
theorem dX12_sideAt_202 : decode cX12_sideAt 202 = .ok (.getfield 9, 3) := by decide +kernel
theorem dX12_sideAt_205 : decode cX12_sideAt 205 = .ok (.sipush 130, 3) := by decide +kernel
theorem dX12_sideAt_208 : decode cX12_sideAt 208 = .ok (.iload_n 2, 1) := by decide +kernel
theorem dX12_sideAt_209 : decode cX12_sideAt 209 = .ok (.iadd, 1) := by decide +kernel
theorem dX12_sideAt_210 : decode cX12_sideAt 210 = .ok (.iaload, 1) := by decide +kernel
theorem dX12_sideAt_211 : decode cX12_sideAt 211 = .ok (.iload 5, 2) := by decide +kernel
theorem dX12_sideAt_213 : decode cX12_sideAt 213 = .ok (.if_icmp .lt 7, 3) := by decide +kernel
theorem dX12_sideAt_216 : decode cX12_sideAt 216 = .ok (.iconst 0, 1) := by decide +kernel
theorem dX12_sideAt_217 : decode cX12_sideAt 217 = .ok (.goto 4, 3) := by decide +kernel
theorem dX12_sideAt_220 : decode cX12_sideAt 220 = .ok (.iconst 1, 1) := by decide +kernel
theorem dX12_sideAt_221 : decode cX12_sideAt 221 = .ok (.ireturn, 1) := by decide +kernel
theorem dX12_sideAt_222 : decode cX12_sideAt 222 = .ok (.iload_n 3, 1) := by decide +kernel
theorem dX12_sideAt_223 : decode cX12_sideAt 223 = .ok (.ireturn, 1) := by decide +kernel
set_option maxRecDepth 20000 in
theorem ggX12_goes_X12_looks : GoodIn wsX12_goes wsX12_looks := goodIn_r _ [12, 6, 13, 3, 5, 14, 19, 20, 21, 22, 23, 24, 25, 26, 27, 28, 29, 30, 31, 32, 33, 34, 35, 36, 37, 38, 39, 40] (by decide +kernel) (by decide +kernel)
set_option maxRecDepth 20000 in
theorem gX12_goes_X12_looks : GoodIn wsX12_goes (wsV RX12 146 RX12 yX12_looks wsX12_looks) := goodIn_app (goodIn_of _ (by decide +kernel)) ggX12_goes_X12_looks
set_option maxRecDepth 20000 in
theorem ggX12_goes_X12_sideAt : GoodIn wsX12_goes wsX12_sideAt := goodIn_r _ [18, 3, 1, 13, 19, 20, 21, 22, 23, 24, 25, 26, 27, 28, 29, 30, 31, 32, 33, 34, 35, 36, 37, 38, 39, 40] (by decide +kernel) (by decide +kernel)
set_option maxRecDepth 20000 in
theorem gX12_goes_X12_sideAt : GoodIn wsX12_goes (wsV RX12 149 RX12 yX12_sideAt wsX12_sideAt) := goodIn_app (goodIn_of _ (by decide +kernel)) ggX12_goes_X12_sideAt
theorem dX12_goes_0 : decode cX12_goes 0 = .ok (.aload_n 0, 1) := by decide +kernel
theorem dX12_goes_1 : decode cX12_goes 1 = .ok (.iconst 0, 1) := by decide +kernel
theorem dX12_goes_2 : decode cX12_goes 2 = .ok (.putfield 137, 3) := by decide +kernel
theorem dX12_goes_5 : decode cX12_goes 5 = .ok (.aload_n 0, 1) := by decide +kernel
theorem dX12_goes_6 : decode cX12_goes 6 = .ok (.iconst 0, 1) := by decide +kernel
theorem dX12_goes_7 : decode cX12_goes 7 = .ok (.putfield 140, 3) := by decide +kernel
theorem dX12_goes_10 : decode cX12_goes 10 = .ok (.aload_n 0, 1) := by decide +kernel
theorem dX12_goes_11 : decode cX12_goes 11 = .ok (.iload 4, 2) := by decide +kernel
theorem dX12_goes_13 : decode cX12_goes 13 = .ok (.aload_n 0, 1) := by decide +kernel
theorem dX12_goes_14 : decode cX12_goes 14 = .ok (.getfield 9, 3) := by decide +kernel
theorem dX12_goes_17 : decode cX12_goes 17 = .ok (.sipush 242, 3) := by decide +kernel
theorem dX12_goes_20 : decode cX12_goes 20 = .ok (.iload_n 1, 1) := by decide +kernel
theorem dX12_goes_21 : decode cX12_goes 21 = .ok (.iadd, 1) := by decide +kernel
theorem dX12_goes_22 : decode cX12_goes 22 = .ok (.iaload, 1) := by decide +kernel
theorem dX12_goes_23 : decode cX12_goes 23 = .ok (.iadd, 1) := by decide +kernel
theorem dX12_goes_24 : decode cX12_goes 24 = .ok (.putfield 143, 3) := by decide +kernel
theorem dX12_goes_27 : decode cX12_goes 27 = .ok (.aload_n 0, 1) := by decide +kernel
theorem dX12_goes_28 : decode cX12_goes 28 = .ok (.getfield 18, 3) := by decide +kernel
theorem dX12_goes_31 : decode cX12_goes 31 = .ok (.iconst 0, 1) := by decide +kernel
theorem dX12_goes_32 : decode cX12_goes 32 = .ok (.iload 4, 2) := by decide +kernel
theorem dX12_goes_34 : decode cX12_goes 34 = .ok (.iastore, 1) := by decide +kernel
theorem dX12_goes_35 : decode cX12_goes 35 = .ok (.aload_n 0, 1) := by decide +kernel
theorem dX12_goes_36 : decode cX12_goes 36 = .ok (.getfield 18, 3) := by decide +kernel
theorem dX12_goes_39 : decode cX12_goes 39 = .ok (.iconst 1, 1) := by decide +kernel
theorem dX12_goes_40 : decode cX12_goes 40 = .ok (.aload_n 0, 1) := by decide +kernel
theorem dX12_goes_41 : decode cX12_goes 41 = .ok (.getfield 9, 3) := by decide +kernel
theorem dX12_goes_44 : decode cX12_goes 44 = .ok (.sipush 130, 3) := by decide +kernel
theorem dX12_goes_47 : decode cX12_goes 47 = .ok (.iload_n 3, 1) := by decide +kernel
theorem dX12_goes_48 : decode cX12_goes 48 = .ok (.iadd, 1) := by decide +kernel
theorem dX12_goes_49 : decode cX12_goes 49 = .ok (.iaload, 1) := by decide +kernel
theorem dX12_goes_50 : decode cX12_goes 50 = .ok (.iastore, 1) := by decide +kernel
theorem dX12_goes_51 : decode cX12_goes 51 = .ok (.aload_n 0, 1) := by decide +kernel
theorem dX12_goes_52 : decode cX12_goes 52 = .ok (.getfield 18, 3) := by decide +kernel
theorem dX12_goes_55 : decode cX12_goes 55 = .ok (.iconst 2, 1) := by decide +kernel
theorem dX12_goes_56 : decode cX12_goes 56 = .ok (.aload_n 0, 1) := by decide +kernel
theorem dX12_goes_57 : decode cX12_goes 57 = .ok (.getfield 9, 3) := by decide +kernel
theorem dX12_goes_60 : decode cX12_goes 60 = .ok (.sipush 136, 3) := by decide +kernel
theorem dX12_goes_63 : decode cX12_goes 63 = .ok (.iload_n 3, 1) := by decide +kernel
theorem dX12_goes_64 : decode cX12_goes 64 = .ok (.iadd, 1) := by decide +kernel
theorem dX12_goes_65 : decode cX12_goes 65 = .ok (.iaload, 1) := by decide +kernel
theorem dX12_goes_66 : decode cX12_goes 66 = .ok (.iastore, 1) := by decide +kernel
theorem dX12_goes_67 : decode cX12_goes 67 = .ok (.aload_n 0, 1) := by decide +kernel
theorem dX12_goes_68 : decode cX12_goes 68 = .ok (.getfield 18, 3) := by decide +kernel
theorem dX12_goes_71 : decode cX12_goes 71 = .ok (.iconst 3, 1) := by decide +kernel
theorem dX12_goes_72 : decode cX12_goes 72 = .ok (.iload_n 2, 1) := by decide +kernel
theorem dX12_goes_73 : decode cX12_goes 73 = .ok (.iastore, 1) := by decide +kernel
theorem dX12_goes_74 : decode cX12_goes 74 = .ok (.iload 6, 2) := by decide +kernel
theorem dX12_goes_76 : decode cX12_goes 76 = .ok (.ifCond .ne 10, 3) := by decide +kernel
theorem dX12_goes_79 : decode cX12_goes 79 = .ok (.aload_n 0, 1) := by decide +kernel
theorem dX12_goes_80 : decode cX12_goes 80 = .ok (.getfield 143, 3) := by decide +kernel
theorem dX12_goes_83 : decode cX12_goes 83 = .ok (.goto 5, 3) := by decide +kernel
theorem dX12_goes_86 : decode cX12_goes 86 = .ok (.iload 6, 2) := by decide +kernel
theorem dX12_goes_88 : decode cX12_goes 88 = .ok (.istore 7, 2) := by decide +kernel
theorem dX12_goes_90 : decode cX12_goes 90 = .ok (.iconst 1, 1) := by decide +kernel
theorem dX12_goes_91 : decode cX12_goes 91 = .ok (.istore 8, 2) := by decide +kernel
theorem dX12_goes_93 : decode cX12_goes 93 = .ok (.iload 8, 2) := by decide +kernel
theorem dX12_goes_95 : decode cX12_goes 95 = .ok (.iload 7, 2) := by decide +kernel
theorem dX12_goes_97 : decode cX12_goes 97 = .ok (.if_icmp .gt 87, 3) := by decide +kernel
theorem dX12_goes_100 : decode cX12_goes 100 = .ok (.aload_n 0, 1) := by decide +kernel
theorem dX12_goes_101 : decode cX12_goes 101 = .ok (.getfield 18, 3) := by decide +kernel
theorem dX12_goes_104 : decode cX12_goes 104 = .ok (.iconst 4, 1) := by decide +kernel
theorem dX12_goes_105 : decode cX12_goes 105 = .ok (.iload 8, 2) := by decide +kernel
theorem dX12_goes_107 : decode cX12_goes 107 = .ok (.iastore, 1) := by decide +kernel
theorem dX12_goes_108 : decode cX12_goes 108 = .ok (.aload_n 0, 1) := by decide +kernel
theorem dX12_goes_109 : decode cX12_goes 109 = .ok (.iload_n 1, 1) := by decide +kernel
theorem dX12_goes_110 : decode cX12_goes 110 = .ok (.invokevirtual 146, 3) := by decide +kernel
theorem dX12_goes_113 : decode cX12_goes 113 = .ok (.aload_n 0, 1) := by decide +kernel
theorem dX12_goes_114 : decode cX12_goes 114 = .ok (.aload_n 0, 1) := by decide +kernel
theorem dX12_goes_115 : decode cX12_goes 115 = .ok (.getfield 137, 3) := by decide +kernel
theorem dX12_goes_118 : decode cX12_goes 118 = .ok (.aload_n 0, 1) := by decide +kernel
theorem dX12_goes_119 : decode cX12_goes 119 = .ok (.getfield 131, 3) := by decide +kernel
theorem dX12_goes_122 : decode cX12_goes 122 = .ok (.iadd, 1) := by decide +kernel
theorem dX12_goes_123 : decode cX12_goes 123 = .ok (.bipush 100, 2) := by decide +kernel
theorem dX12_goes_125 : decode cX12_goes 125 = .ok (.irem, 1) := by decide +kernel
theorem dX12_goes_126 : decode cX12_goes 126 = .ok (.putfield 137, 3) := by decide +kernel
theorem dX12_goes_129 : decode cX12_goes 129 = .ok (.aload_n 0, 1) := by decide +kernel
theorem dX12_goes_130 : decode cX12_goes 130 = .ok (.aload_n 0, 1) := by decide +kernel
theorem dX12_goes_131 : decode cX12_goes 131 = .ok (.iload_n 1, 1) := by decide +kernel
theorem dX12_goes_132 : decode cX12_goes 132 = .ok (.iload_n 3, 1) := by decide +kernel
theorem dX12_goes_133 : decode cX12_goes 133 = .ok (.iload 5, 2) := by decide +kernel
theorem dX12_goes_135 : decode cX12_goes 135 = .ok (.iload 8, 2) := by decide +kernel
theorem dX12_goes_137 : decode cX12_goes 137 = .ok (.aload_n 0, 1) := by decide +kernel
theorem dX12_goes_138 : decode cX12_goes 138 = .ok (.getfield 143, 3) := by decide +kernel
theorem dX12_goes_141 : decode cX12_goes 141 = .ok (.if_icmp .ne 7, 3) := by decide +kernel
theorem dX12_goes_144 : decode cX12_goes 144 = .ok (.iconst 1, 1) := by decide +kernel
theorem dX12_goes_145 : decode cX12_goes 145 = .ok (.goto 4, 3) := by decide +kernel
theorem dX12_goes_148 : decode cX12_goes 148 = .ok (.iconst 0, 1) := by decide +kernel
theorem dX12_goes_149 : decode cX12_goes 149 = .ok (.invokevirtual 149, 3) := by decide +kernel
theorem dX12_goes_152 : decode cX12_goes 152 = .ok (.putfield 153, 3) := by decide +kernel
theorem dX12_goes_155 : decode cX12_goes 155 = .ok (.aload_n 0, 1) := by decide +kernel
theorem dX12_goes_156 : decode cX12_goes 156 = .ok (.dup, 1) := by decide +kernel
theorem dX12_goes_157 : decode cX12_goes 157 = .ok (.getfield 140, 3) := by decide +kernel
theorem dX12_goes_160 : decode cX12_goes 160 = .ok (.aload_n 0, 1) := by decide +kernel
theorem dX12_goes_161 : decode cX12_goes 161 = .ok (.getfield 153, 3) := by decide +kernel
