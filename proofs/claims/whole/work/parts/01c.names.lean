theorem dX11_law_66 : decode cX11_law 66 = .ok (.iconst 0, 1) := by decide +kernel
theorem dX11_law_67 : decode cX11_law 67 = .ok (.putfield 89, 3) := by decide +kernel
theorem dX11_law_70 : decode cX11_law 70 = .ok (.iload_n 3, 1) := by decide +kernel
theorem dX11_law_71 : decode cX11_law 71 = .ok (.ifCond .ne 14, 3) := by decide +kernel
theorem dX11_law_74 : decode cX11_law 74 = .ok (.bipush (-10), 2) := by decide +kernel
theorem dX11_law_76 : decode cX11_law 76 = .ok (.aload_n 0, 1) := by decide +kernel
theorem dX11_law_77 : decode cX11_law 77 = .ok (.getfield 24, 3) := by decide +kernel
theorem dX11_law_80 : decode cX11_law 80 = .ok (.getfield 102, 3) := by decide +kernel
theorem dX11_law_83 : decode cX11_law 83 = .ok (.isub, 1) := by decide +kernel
theorem dX11_law_84 : decode cX11_law 84 = .ok (.ireturn, 1) := by decide +kernel
theorem dX11_law_85 : decode cX11_law 85 = .ok (.aload_n 0, 1) := by decide +kernel
theorem dX11_law_86 : decode cX11_law 86 = .ok (.getfield 12, 3) := by decide +kernel
theorem dX11_law_89 : decode cX11_law 89 = .ok (.getfield 105, 3) := by decide +kernel
theorem dX11_law_92 : decode cX11_law 92 = .ok (.aload_n 0, 1) := by decide +kernel
theorem dX11_law_93 : decode cX11_law 93 = .ok (.getfield 12, 3) := by decide +kernel
theorem dX11_law_96 : decode cX11_law 96 = .ok (.getfield 95, 3) := by decide +kernel
theorem dX11_law_99 : decode cX11_law 99 = .ok (.aload_n 0, 1) := by decide +kernel
theorem dX11_law_100 : decode cX11_law 100 = .ok (.iload_n 1, 1) := by decide +kernel
theorem dX11_law_101 : decode cX11_law 101 = .ok (.aload_n 0, 1) := by decide +kernel
theorem dX11_law_102 : decode cX11_law 102 = .ok (.getfield 12, 3) := by decide +kernel
theorem dX11_law_105 : decode cX11_law 105 = .ok (.getfield 95, 3) := by decide +kernel
theorem dX11_law_108 : decode cX11_law 108 = .ok (.iload_n 2, 1) := by decide +kernel
theorem dX11_law_109 : decode cX11_law 109 = .ok (.invokevirtual 109, 3) := by decide +kernel
theorem dX11_law_112 : decode cX11_law 112 = .ok (.aastore, 1) := by decide +kernel
theorem dX11_law_113 : decode cX11_law 113 = .ok (.aload_n 0, 1) := by decide +kernel
theorem dX11_law_114 : decode cX11_law 114 = .ok (.getfield 12, 3) := by decide +kernel
theorem dX11_law_117 : decode cX11_law 117 = .ok (.dup, 1) := by decide +kernel
theorem dX11_law_118 : decode cX11_law 118 = .ok (.getfield 95, 3) := by decide +kernel
theorem dX11_law_121 : decode cX11_law 121 = .ok (.dup_x1, 1) := by decide +kernel
theorem dX11_law_122 : decode cX11_law 122 = .ok (.iconst 1, 1) := by decide +kernel
theorem dX11_law_123 : decode cX11_law 123 = .ok (.iadd, 1) := by decide +kernel
theorem dX11_law_124 : decode cX11_law 124 = .ok (.putfield 95, 3) := by decide +kernel
theorem dX11_law_127 : decode cX11_law 127 = .ok (.ireturn, 1) := by decide +kernel
set_option maxRecDepth 20000 in
theorem ggX11_told_X11_lawOf : GoodIn wsX11_told wsX11_lawOf := goodIn_r _ [8, 9, 10, 11, 7, 12, 48, 49, 50, 51, 52, 53, 54, 55, 56, 57, 58, 59, 60, 61, 62, 63, 64, 65, 66, 67] (by decide +kernel) (by decide +kernel)
set_option maxRecDepth 20000 in
theorem gX11_told_X11_lawOf : GoodIn wsX11_told (wsV RX11 113 RX11 yX11_lawOf wsX11_lawOf) := goodIn_app (goodIn_of _ (by decide +kernel)) ggX11_told_X11_lawOf
theorem dX11_told_0 : decode cX11_told 0 = .ok (.aload_n 0, 1) := by decide +kernel
theorem dX11_told_1 : decode cX11_told 1 = .ok (.iload_n 1, 1) := by decide +kernel
theorem dX11_told_2 : decode cX11_told 2 = .ok (.invokevirtual 113, 3) := by decide +kernel
theorem dX11_told_5 : decode cX11_told 5 = .ok (.astore_n 3, 1) := by decide +kernel
theorem dX11_told_6 : decode cX11_told 6 = .ok (.aload_n 3, 1) := by decide +kernel
theorem dX11_told_7 : decode cX11_told 7 = .ok (.ifnonnull 5, 3) := by decide +kernel
theorem dX11_told_10 : decode cX11_told 10 = .ok (.iconst (-1), 1) := by decide +kernel
theorem dX11_told_11 : decode cX11_told 11 = .ok (.ireturn, 1) := by decide +kernel
theorem dX11_told_12 : decode cX11_told 12 = .ok (.iload_n 2, 1) := by decide +kernel
theorem dX11_told_13 : decode cX11_told 13 = .ok (.tableswitch 42 0 2 #[27, 32, 37], 27) := by decide +kernel
theorem dX11_told_40 : decode cX11_told 40 = .ok (.aload_n 3, 1) := by decide +kernel
theorem dX11_told_41 : decode cX11_told 41 = .ok (.getfield 117, 3) := by decide +kernel
theorem dX11_told_44 : decode cX11_told 44 = .ok (.ireturn, 1) := by decide +kernel
theorem dX11_told_45 : decode cX11_told 45 = .ok (.aload_n 3, 1) := by decide +kernel
theorem dX11_told_46 : decode cX11_told 46 = .ok (.getfield 122, 3) := by decide +kernel
theorem dX11_told_49 : decode cX11_told 49 = .ok (.ireturn, 1) := by decide +kernel
theorem dX11_told_50 : decode cX11_told 50 = .ok (.aload_n 3, 1) := by decide +kernel
theorem dX11_told_51 : decode cX11_told 51 = .ok (.getfield 125, 3) := by decide +kernel
theorem dX11_told_54 : decode cX11_told 54 = .ok (.ireturn, 1) := by decide +kernel
theorem dX11_told_55 : decode cX11_told 55 = .ok (.iconst (-1), 1) := by decide +kernel
theorem dX11_told_56 : decode cX11_told 56 = .ok (.ireturn, 1) := by decide +kernel
set_option maxRecDepth 20000 in
theorem ggX11_toss_X11_lawOf : GoodIn wsX11_toss wsX11_lawOf := goodIn_r _ [7, 8, 9, 10, 6, 11, 98, 99, 100, 101, 102, 103, 147, 148, 149, 150, 151, 152, 153, 154, 155, 156, 157, 158, 159, 160] (by decide +kernel) (by decide +kernel)
set_option maxRecDepth 20000 in
theorem gX11_toss_X11_lawOf : GoodIn wsX11_toss (wsV RX11 113 RX11 yX11_lawOf wsX11_lawOf) := goodIn_app (goodIn_of _ (by decide +kernel)) ggX11_toss_X11_lawOf
set_option maxRecDepth 20000 in
theorem ggX11_toss_X11_isHand : GoodIn wsX11_toss wsX11_isHand := goodIn_r _ [15, 8, 9, 10, 6, 11, 98, 99, 100, 101, 102, 103, 147, 148, 149, 150, 151, 152, 153, 154, 155, 156, 157, 158, 159, 160] (by decide +kernel) (by decide +kernel)
set_option maxRecDepth 20000 in
theorem gX11_toss_X11_isHand : GoodIn wsX11_toss (wsV RX11 66 RX11 yX11_isHand wsX11_isHand) := goodIn_app (goodIn_of _ (by decide +kernel)) ggX11_toss_X11_isHand
set_option maxRecDepth 20000 in
theorem ggX11_toss_X11_isCoin : GoodIn wsX11_toss wsX11_isCoin := goodIn_r _ [19, 8, 9, 10, 6, 11, 98, 99, 100, 101, 102, 103, 147, 148, 149, 150, 151, 152, 153, 154, 155, 156, 157, 158, 159, 160] (by decide +kernel) (by decide +kernel)
set_option maxRecDepth 20000 in
theorem gX11_toss_X11_isCoin : GoodIn wsX11_toss (wsV RX11 80 RX11 yX11_isCoin wsX11_isCoin) := goodIn_app (goodIn_of _ (by decide +kernel)) ggX11_toss_X11_isCoin
set_option maxRecDepth 20000 in
theorem ggX11_toss_X11_isWithin : GoodIn wsX11_toss wsX11_isWithin := goodIn_r _ [11] (by decide +kernel) (by decide +kernel)
set_option maxRecDepth 20000 in
theorem gX11_toss_X11_isWithin : GoodIn wsX11_toss (va_wsS RX11 42 yX11_isWithin wsX11_isWithin) := goodIn_app (goodIn_of _ (by decide +kernel)) ggX11_toss_X11_isWithin
set_option maxRecDepth 20000 in
theorem ggX11_toss_X11_begin : GoodIn wsX11_toss wsX11_begin := goodIn_r _ [23, 1, 8, 24, 98, 99, 100, 101, 102, 103, 104, 105, 106, 107, 108, 109, 110, 111, 147, 148, 149, 150, 151, 152, 153, 154, 155, 156, 157, 158, 159, 160, 112, 113, 114, 115, 116, 117, 118, 119, 120, 121, 122, 123, 124, 125, 126, 127, 128, 129, 130, 131, 132, 133, 134, 135, 136, 137, 138, 139, 140, 141, 142, 143, 144, 145, 146] (by decide +kernel) (by decide +kernel)
set_option maxRecDepth 20000 in
theorem gX11_toss_X11_begin : GoodIn wsX11_toss (wsV RX11 128 RX11 yX11_begin wsX11_begin) := goodIn_app (goodIn_of _ (by decide +kernel)) ggX11_toss_X11_begin
set_option maxRecDepth 20000 in
theorem ggX11_toss_X2_goOn : GoodIn wsX11_toss wsX2_goOn := goodIn_r _ [28, 29, 30, 31, 32, 33, 34, 35, 36, 37, 38, 26, 39, 40, 41, 42, 43, 44, 45, 46, 47, 104, 105, 106, 107, 108, 109, 110, 111] (by decide +kernel) (by decide +kernel)
set_option maxRecDepth 20000 in
theorem gX11_toss_X2_goOn_n138 : GoodIn wsX11_toss (wsX2_goOn) := ggX11_toss_X2_goOn
set_option maxRecDepth 20000 in
theorem ggX11_toss_X0_sideUp : GoodIn wsX11_toss wsX0_sideUp := goodIn_r _ [54, 55, 56, 57, 26, 58, 59, 29, 60, 104, 105, 106, 107, 108, 109, 110, 111, 112, 113, 114, 115, 116, 117, 118, 119, 120, 121, 122, 123, 124, 125, 126, 127, 128, 129, 130, 131, 132, 133, 134, 135, 136, 137, 138, 139, 140, 141, 142, 143, 144, 145, 146] (by decide +kernel) (by decide +kernel)
set_option maxRecDepth 20000 in
theorem gX11_toss_X0_sideUp_u142X0 : GoodIn wsX11_toss (va_wsO RX11 142 RX0 "HeadsByHair$Throw" ⟨"HeadsByHair$Throw", "sideUp", "(LHeadsByHair$Flight;I)I"⟩ yX0_sideUp wsX0_sideUp) := goodIn_app (goodIn_of _ (by decide +kernel)) ggX11_toss_X0_sideUp
set_option maxRecDepth 20000 in
theorem ggX11_toss_X1_sideUp : GoodIn wsX11_toss wsX1_sideUp := goodIn_r _ [65, 66, 67, 68, 69, 70, 52, 53, 54, 55, 56, 57, 26, 58, 59, 29, 60, 112, 113, 114, 115, 116, 117, 118, 119, 120, 121, 122, 123, 124, 125, 126, 127, 128, 129, 130, 131, 132, 133, 134, 135, 136, 137, 138, 139, 140, 141, 142, 143, 144, 145, 146, 104, 105, 106, 107, 108, 109, 110, 111] (by decide +kernel) (by decide +kernel)
set_option maxRecDepth 20000 in
theorem gX11_toss_X1_sideUp_u142X1 : GoodIn wsX11_toss (va_wsO RX11 142 RX1 "HeadsByHair$Throw" ⟨"HeadsByHair$Throw", "sideUp", "(LHeadsByHair$Flight;I)I"⟩ yX1_sideUp wsX1_sideUp) := goodIn_app (goodIn_of _ (by decide +kernel)) ggX11_toss_X1_sideUp
set_option maxRecDepth 20000 in
theorem ggX11_toss_X4_sideUp : GoodIn wsX11_toss wsX4_sideUp := goodIn_r _ [74, 75, 76, 77, 78, 79, 80, 81, 82, 104, 105, 106, 107, 108, 109, 110, 111, 112, 113, 114, 115, 116, 117, 118, 119, 120, 121, 122, 123, 124, 125, 126, 127, 128, 129, 130, 131, 132, 133, 134, 135, 136, 137, 138, 139, 140, 141, 142, 143, 144, 145, 146] (by decide +kernel) (by decide +kernel)
set_option maxRecDepth 20000 in
theorem gX11_toss_X4_sideUp_u142X4 : GoodIn wsX11_toss (va_wsO RX11 142 RX4 "HeadsByHair$Throw" ⟨"HeadsByHair$Throw", "sideUp", "(LHeadsByHair$Flight;I)I"⟩ yX4_sideUp wsX4_sideUp) := goodIn_app (goodIn_of _ (by decide +kernel)) ggX11_toss_X4_sideUp
set_option maxRecDepth 20000 in
theorem ggX11_toss_X5_sideUp : GoodIn wsX11_toss wsX5_sideUp := goodIn_r _ [86, 87, 88, 104, 105, 106, 107, 108, 109, 110, 111, 112, 113, 114, 115, 116, 117, 118, 119, 120, 121, 122, 123, 124, 125, 126, 127, 128, 129, 130, 131, 132, 133, 134, 135, 136, 137, 138, 139, 140, 141, 142, 143, 144, 145, 146] (by decide +kernel) (by decide +kernel)
set_option maxRecDepth 20000 in
theorem gX11_toss_X5_sideUp_u142X5 : GoodIn wsX11_toss (va_wsO RX11 142 RX5 "HeadsByHair$Throw" ⟨"HeadsByHair$Throw", "sideUp", "(LHeadsByHair$Flight;I)I"⟩ yX5_sideUp wsX5_sideUp) := goodIn_app (goodIn_of _ (by decide +kernel)) ggX11_toss_X5_sideUp
set_option maxRecDepth 20000 in
theorem ggX11_toss_X7_sideUp : GoodIn wsX11_toss wsX7_sideUp := goodIn_r _ [61] (by decide +kernel) (by decide +kernel)
set_option maxRecDepth 20000 in
theorem gX11_toss_X7_sideUp : GoodIn wsX11_toss (wsV RX11 142 RX7 yX7_sideUp wsX7_sideUp) := goodIn_app (goodIn_of _ (by decide +kernel)) ggX11_toss_X7_sideUp
set_option maxRecDepth 20000 in
theorem ggX11_toss_X9_sideUp : GoodIn wsX11_toss wsX9_sideUp := goodIn_r _ [96, 104, 105, 106, 107, 108, 109, 110, 111] (by decide +kernel) (by decide +kernel)
set_option maxRecDepth 20000 in
theorem gX11_toss_X9_sideUp_u142X9 : GoodIn wsX11_toss (va_wsO RX11 142 RX9 "HeadsByHair$Throw" ⟨"HeadsByHair$Throw", "sideUp", "(LHeadsByHair$Flight;I)I"⟩ yX9_sideUp wsX9_sideUp) := goodIn_app (goodIn_of _ (by decide +kernel)) ggX11_toss_X9_sideUp
set_option maxRecDepth 20000 in
theorem ggX11_toss_X10_sideUp : GoodIn wsX11_toss wsX10_sideUp := goodIn_r _ [82, 104, 105, 106, 107, 108, 109, 110, 111] (by decide +kernel) (by decide +kernel)
set_option maxRecDepth 20000 in
theorem gX11_toss_X10_sideUp_u142X10 : GoodIn wsX11_toss (va_wsO RX11 142 RX10 "HeadsByHair$Throw" ⟨"HeadsByHair$Throw", "sideUp", "(LHeadsByHair$Flight;I)I"⟩ yX10_sideUp wsX10_sideUp) := goodIn_app (goodIn_of _ (by decide +kernel)) ggX11_toss_X10_sideUp
theorem dX11_toss_0 : decode cX11_toss 0 = .ok (.aload_n 0, 1) := by decide +kernel
theorem dX11_toss_1 : decode cX11_toss 1 = .ok (.iload_n 1, 1) := by decide +kernel
theorem dX11_toss_2 : decode cX11_toss 2 = .ok (.invokevirtual 113, 3) := by decide +kernel
theorem dX11_toss_5 : decode cX11_toss 5 = .ok (.astore 6, 2) := by decide +kernel
theorem dX11_toss_7 : decode cX11_toss 7 = .ok (.aload 6, 2) := by decide +kernel
theorem dX11_toss_9 : decode cX11_toss 9 = .ok (.ifnull 29, 3) := by decide +kernel
theorem dX11_toss_12 : decode cX11_toss 12 = .ok (.aload_n 0, 1) := by decide +kernel
theorem dX11_toss_13 : decode cX11_toss 13 = .ok (.iload_n 2, 1) := by decide +kernel
theorem dX11_toss_14 : decode cX11_toss 14 = .ok (.invokevirtual 66, 3) := by decide +kernel
theorem dX11_toss_17 : decode cX11_toss 17 = .ok (.ifCond .eq 21, 3) := by decide +kernel
theorem dX11_toss_20 : decode cX11_toss 20 = .ok (.aload_n 0, 1) := by decide +kernel
theorem dX11_toss_21 : decode cX11_toss 21 = .ok (.iload_n 3, 1) := by decide +kernel
theorem dX11_toss_22 : decode cX11_toss 22 = .ok (.invokevirtual 80, 3) := by decide +kernel
theorem dX11_toss_25 : decode cX11_toss 25 = .ok (.ifCond .eq 13, 3) := by decide +kernel
theorem dX11_toss_28 : decode cX11_toss 28 = .ok (.iload 5, 2) := by decide +kernel
theorem dX11_toss_30 : decode cX11_toss 30 = .ok (.iconst 0, 1) := by decide +kernel
theorem dX11_toss_31 : decode cX11_toss 31 = .ok (.iconst 3, 1) := by decide +kernel
theorem dX11_toss_32 : decode cX11_toss 32 = .ok (.invokestatic 42, 3) := by decide +kernel
theorem dX11_toss_35 : decode cX11_toss 35 = .ok (.ifCond .ne 5, 3) := by decide +kernel
theorem dX11_toss_38 : decode cX11_toss 38 = .ok (.iconst (-1), 1) := by decide +kernel
theorem dX11_toss_39 : decode cX11_toss 39 = .ok (.ireturn, 1) := by decide +kernel
theorem dX11_toss_40 : decode cX11_toss 40 = .ok (.iload 4, 2) := by decide +kernel
theorem dX11_toss_42 : decode cX11_toss 42 = .ok (.iconst 1, 1) := by decide +kernel
theorem dX11_toss_43 : decode cX11_toss 43 = .ok (.bipush 40, 2) := by decide +kernel
theorem dX11_toss_45 : decode cX11_toss 45 = .ok (.invokestatic 42, 3) := by decide +kernel
theorem dX11_toss_48 : decode cX11_toss 48 = .ok (.ifCond .ne 6, 3) := by decide +kernel
theorem dX11_toss_51 : decode cX11_toss 51 = .ok (.bipush (-2), 2) := by decide +kernel
theorem dX11_toss_53 : decode cX11_toss 53 = .ok (.ireturn, 1) := by decide +kernel
theorem dX11_toss_54 : decode cX11_toss 54 = .ok (.aload_n 0, 1) := by decide +kernel
theorem dX11_toss_55 : decode cX11_toss 55 = .ok (.aload 6, 2) := by decide +kernel
theorem dX11_toss_57 : decode cX11_toss 57 = .ok (.iload_n 2, 1) := by decide +kernel
theorem dX11_toss_58 : decode cX11_toss 58 = .ok (.iload_n 3, 1) := by decide +kernel
theorem dX11_toss_59 : decode cX11_toss 59 = .ok (.iload 4, 2) := by decide +kernel
theorem dX11_toss_61 : decode cX11_toss 61 = .ok (.invokevirtual 128, 3) := by decide +kernel
theorem dX11_toss_64 : decode cX11_toss 64 = .ok (.iconst 0, 1) := by decide +kernel
theorem dX11_toss_65 : decode cX11_toss 65 = .ok (.istore 7, 2) := by decide +kernel
theorem dX11_toss_67 : decode cX11_toss 67 = .ok (.iconst 1, 1) := by decide +kernel
theorem dX11_toss_68 : decode cX11_toss 68 = .ok (.istore 8, 2) := by decide +kernel
theorem dX11_toss_70 : decode cX11_toss 70 = .ok (.iload 8, 2) := by decide +kernel
theorem dX11_toss_72 : decode cX11_toss 72 = .ok (.aload_n 0, 1) := by decide +kernel
theorem dX11_toss_73 : decode cX11_toss 73 = .ok (.getfield 31, 3) := by decide +kernel
theorem dX11_toss_76 : decode cX11_toss 76 = .ok (.getfield 132, 3) := by decide +kernel
theorem dX11_toss_79 : decode cX11_toss 79 = .ok (.if_icmp .gt 38, 3) := by decide +kernel
theorem dX11_toss_82 : decode cX11_toss 82 = .ok (.aload_n 0, 1) := by decide +kernel
theorem dX11_toss_83 : decode cX11_toss 83 = .ok (.getfield 31, 3) := by decide +kernel
theorem dX11_toss_86 : decode cX11_toss 86 = .ok (.aload 6, 2) := by decide +kernel
theorem dX11_toss_88 : decode cX11_toss 88 = .ok (.getfield 135, 3) := by decide +kernel
theorem dX11_toss_91 : decode cX11_toss 91 = .ok (.invokevirtual 138, 3) := by decide +kernel
theorem dX11_toss_94 : decode cX11_toss 94 = .ok (.aload 6, 2) := by decide +kernel
theorem dX11_toss_96 : decode cX11_toss 96 = .ok (.aload_n 0, 1) := by decide +kernel
theorem dX11_toss_97 : decode cX11_toss 97 = .ok (.getfield 31, 3) := by decide +kernel
theorem dX11_toss_100 : decode cX11_toss 100 = .ok (.iconst 1, 1) := by decide +kernel
theorem dX11_toss_101 : decode cX11_toss 101 = .ok (.invokevirtual 142, 3) := by decide +kernel
theorem dX11_toss_104 : decode cX11_toss 104 = .ok (.iconst 1, 1) := by decide +kernel
theorem dX11_toss_105 : decode cX11_toss 105 = .ok (.if_icmp .ne 6, 3) := by decide +kernel
theorem dX11_toss_108 : decode cX11_toss 108 = .ok (.iinc 7 1, 3) := by decide +kernel
theorem dX11_toss_111 : decode cX11_toss 111 = .ok (.iinc 8 1, 3) := by decide +kernel
theorem dX11_toss_114 : decode cX11_toss 114 = .ok (.goto (-44), 3) := by decide +kernel
theorem dX11_toss_117 : decode cX11_toss 117 = .ok (.iload 5, 2) := by decide +kernel
theorem dX11_toss_119 : decode cX11_toss 119 = .ok (.tableswitch 47 0 2 #[25, 36, 44], 25) := by decide +kernel
theorem dX11_toss_144 : decode cX11_toss 144 = .ok (.aload 6, 2) := by decide +kernel
theorem dX11_toss_146 : decode cX11_toss 146 = .ok (.aload_n 0, 1) := by decide +kernel
theorem dX11_toss_147 : decode cX11_toss 147 = .ok (.getfield 31, 3) := by decide +kernel
theorem dX11_toss_150 : decode cX11_toss 150 = .ok (.iconst 1, 1) := by decide +kernel
theorem dX11_toss_151 : decode cX11_toss 151 = .ok (.invokevirtual 142, 3) := by decide +kernel
theorem dX11_toss_154 : decode cX11_toss 154 = .ok (.ireturn, 1) := by decide +kernel
theorem dX11_toss_155 : decode cX11_toss 155 = .ok (.aload_n 0, 1) := by decide +kernel
theorem dX11_toss_156 : decode cX11_toss 156 = .ok (.getfield 31, 3) := by decide +kernel
theorem dX11_toss_159 : decode cX11_toss 159 = .ok (.getfield 146, 3) := by decide +kernel
theorem dX11_toss_162 : decode cX11_toss 162 = .ok (.ireturn, 1) := by decide +kernel
theorem dX11_toss_163 : decode cX11_toss 163 = .ok (.iload 7, 2) := by decide +kernel
theorem dX11_toss_165 : decode cX11_toss 165 = .ok (.ireturn, 1) := by decide +kernel
theorem dX11_toss_166 : decode cX11_toss 166 = .ok (.aload_n 0, 1) := by decide +kernel
theorem dX11_toss_167 : decode cX11_toss 167 = .ok (.getfield 31, 3) := by decide +kernel
theorem dX11_toss_170 : decode cX11_toss 170 = .ok (.getfield 132, 3) := by decide +kernel
theorem dX11_toss_173 : decode cX11_toss 173 = .ok (.ireturn, 1) := by decide +kernel
set_option maxRecDepth 20000 in
theorem ggX11_up_X11_lawOf : GoodIn wsX11_up wsX11_lawOf := goodIn_r _ [6, 7, 8, 9, 5, 10, 137, 138, 139, 140, 141, 142, 143, 144, 145, 146, 147, 148, 149, 150, 151, 152, 153, 154, 155, 156] (by decide +kernel) (by decide +kernel)
set_option maxRecDepth 20000 in
theorem gX11_up_X11_lawOf : GoodIn wsX11_up (wsV RX11 113 RX11 yX11_lawOf wsX11_lawOf) := goodIn_app (goodIn_of _ (by decide +kernel)) ggX11_up_X11_lawOf
set_option maxRecDepth 20000 in
theorem ggX11_up_X11_isHand : GoodIn wsX11_up wsX11_isHand := goodIn_r _ [14, 7, 8, 9, 5, 10, 137, 138, 139, 140, 141, 142, 143, 144, 145, 146, 147, 148, 149, 150, 151, 152, 153, 154, 155, 156] (by decide +kernel) (by decide +kernel)
set_option maxRecDepth 20000 in
theorem gX11_up_X11_isHand : GoodIn wsX11_up (wsV RX11 66 RX11 yX11_isHand wsX11_isHand) := goodIn_app (goodIn_of _ (by decide +kernel)) ggX11_up_X11_isHand
set_option maxRecDepth 20000 in
theorem ggX11_up_X11_isCoin : GoodIn wsX11_up wsX11_isCoin := goodIn_r _ [18, 7, 8, 9, 5, 10, 137, 138, 139, 140, 141, 142, 143, 144, 145, 146, 147, 148, 149, 150, 151, 152, 153, 154, 155, 156] (by decide +kernel) (by decide +kernel)
set_option maxRecDepth 20000 in
theorem gX11_up_X11_isCoin : GoodIn wsX11_up (wsV RX11 80 RX11 yX11_isCoin wsX11_isCoin) := goodIn_app (goodIn_of _ (by decide +kernel)) ggX11_up_X11_isCoin
set_option maxRecDepth 20000 in
theorem ggX11_up_X11_isWithin : GoodIn wsX11_up wsX11_isWithin := goodIn_r _ [10] (by decide +kernel) (by decide +kernel)
set_option maxRecDepth 20000 in
theorem gX11_up_X11_isWithin : GoodIn wsX11_up (va_wsS RX11 42 yX11_isWithin wsX11_isWithin) := goodIn_app (goodIn_of _ (by decide +kernel)) ggX11_up_X11_isWithin
set_option maxRecDepth 20000 in
theorem ggX11_up_X11_begin : GoodIn wsX11_up wsX11_begin := goodIn_r _ [22, 23, 7, 1, 137, 138, 139, 140, 141, 142, 157, 158, 159, 160, 161, 162, 163, 164, 143, 144, 145, 146, 147, 148, 149, 150, 151, 152, 153, 154, 155, 156, 102, 103, 104, 105, 106, 107, 108, 109, 110, 111, 112, 113, 114, 115, 116, 117, 118, 119, 120, 121, 122, 123, 124, 125, 126, 127, 128, 129, 130, 131, 132, 133, 134, 135, 136] (by decide +kernel) (by decide +kernel)
set_option maxRecDepth 20000 in
theorem gX11_up_X11_begin : GoodIn wsX11_up (wsV RX11 128 RX11 yX11_begin wsX11_begin) := goodIn_app (goodIn_of _ (by decide +kernel)) ggX11_up_X11_begin
set_option maxRecDepth 20000 in
theorem ggX11_up_X11_sideAt : GoodIn wsX11_up wsX11_sideAt := goodIn_r _ [27, 23, 28, 29, 30, 31, 32, 33, 34, 35, 36, 37, 38, 39, 40, 41, 42, 43, 44, 45, 46, 47, 48, 49, 50, 51, 52, 53, 54, 55, 56, 57, 58, 59, 60, 61, 62, 63, 64, 65, 66, 67, 68, 69, 70, 71, 72, 73, 74, 75, 76, 77, 78, 79, 80, 81, 82, 83, 84, 85, 86, 87, 88, 89, 90, 91, 92, 93, 94, 95, 96, 97, 98, 99, 100, 101, 137, 138, 139, 140, 141, 142, 102, 103, 104, 105, 106, 107, 108, 109, 110, 111, 112, 113, 114, 115, 116, 117, 118, 119, 120, 121, 122, 123, 124, 125, 126, 127, 128, 129, 130, 131, 132, 133, 134, 135, 136, 157, 158, 159, 160, 161, 162, 163, 164] (by decide +kernel) (by decide +kernel)
set_option maxRecDepth 20000 in
theorem gX11_up_X11_sideAt : GoodIn wsX11_up (wsV RX11 149 RX11 yX11_sideAt wsX11_sideAt) := goodIn_app (goodIn_of _ (by decide +kernel)) ggX11_up_X11_sideAt
theorem dX11_up_0 : decode cX11_up 0 = .ok (.aload_n 0, 1) := by decide +kernel
theorem dX11_up_1 : decode cX11_up 1 = .ok (.iload_n 1, 1) := by decide +kernel
theorem dX11_up_2 : decode cX11_up 2 = .ok (.invokevirtual 113, 3) := by decide +kernel
theorem dX11_up_5 : decode cX11_up 5 = .ok (.astore 6, 2) := by decide +kernel
theorem dX11_up_7 : decode cX11_up 7 = .ok (.aload 6, 2) := by decide +kernel
theorem dX11_up_9 : decode cX11_up 9 = .ok (.ifnull 19, 3) := by decide +kernel
theorem dX11_up_12 : decode cX11_up 12 = .ok (.aload_n 0, 1) := by decide +kernel
theorem dX11_up_13 : decode cX11_up 13 = .ok (.iload_n 2, 1) := by decide +kernel
theorem dX11_up_14 : decode cX11_up 14 = .ok (.invokevirtual 66, 3) := by decide +kernel
theorem dX11_up_17 : decode cX11_up 17 = .ok (.ifCond .eq 11, 3) := by decide +kernel
theorem dX11_up_20 : decode cX11_up 20 = .ok (.aload_n 0, 1) := by decide +kernel
theorem dX11_up_21 : decode cX11_up 21 = .ok (.iload_n 3, 1) := by decide +kernel
theorem dX11_up_22 : decode cX11_up 22 = .ok (.invokevirtual 80, 3) := by decide +kernel
theorem dX11_up_25 : decode cX11_up 25 = .ok (.ifCond .ne 5, 3) := by decide +kernel
theorem dX11_up_28 : decode cX11_up 28 = .ok (.iconst (-1), 1) := by decide +kernel
theorem dX11_up_29 : decode cX11_up 29 = .ok (.ireturn, 1) := by decide +kernel
theorem dX11_up_30 : decode cX11_up 30 = .ok (.iload 4, 2) := by decide +kernel
theorem dX11_up_32 : decode cX11_up 32 = .ok (.iconst 1, 1) := by decide +kernel
theorem dX11_up_33 : decode cX11_up 33 = .ok (.bipush 40, 2) := by decide +kernel
theorem dX11_up_35 : decode cX11_up 35 = .ok (.invokestatic 42, 3) := by decide +kernel
theorem dX11_up_38 : decode cX11_up 38 = .ok (.ifCond .eq 20, 3) := by decide +kernel
theorem dX11_up_41 : decode cX11_up 41 = .ok (.iload 5, 2) := by decide +kernel
theorem dX11_up_43 : decode cX11_up 43 = .ok (.iconst 1, 1) := by decide +kernel
theorem dX11_up_44 : decode cX11_up 44 = .ok (.iload 4, 2) := by decide +kernel
theorem dX11_up_46 : decode cX11_up 46 = .ok (.aload 6, 2) := by decide +kernel
theorem dX11_up_48 : decode cX11_up 48 = .ok (.getfield 125, 3) := by decide +kernel
theorem dX11_up_51 : decode cX11_up 51 = .ok (.iadd, 1) := by decide +kernel
theorem dX11_up_52 : decode cX11_up 52 = .ok (.invokestatic 42, 3) := by decide +kernel
theorem dX11_up_55 : decode cX11_up 55 = .ok (.ifCond .ne 6, 3) := by decide +kernel
theorem dX11_up_58 : decode cX11_up 58 = .ok (.bipush (-2), 2) := by decide +kernel
theorem dX11_up_60 : decode cX11_up 60 = .ok (.ireturn, 1) := by decide +kernel
theorem dX11_up_61 : decode cX11_up 61 = .ok (.aload_n 0, 1) := by decide +kernel
theorem dX11_up_62 : decode cX11_up 62 = .ok (.aload 6, 2) := by decide +kernel
theorem dX11_up_64 : decode cX11_up 64 = .ok (.iload_n 2, 1) := by decide +kernel
theorem dX11_up_65 : decode cX11_up 65 = .ok (.iload_n 3, 1) := by decide +kernel
theorem dX11_up_66 : decode cX11_up 66 = .ok (.iload 4, 2) := by decide +kernel
theorem dX11_up_68 : decode cX11_up 68 = .ok (.invokevirtual 128, 3) := by decide +kernel
theorem dX11_up_71 : decode cX11_up 71 = .ok (.aload_n 0, 1) := by decide +kernel
theorem dX11_up_72 : decode cX11_up 72 = .ok (.aload 6, 2) := by decide +kernel
theorem dX11_up_74 : decode cX11_up 74 = .ok (.iload 5, 2) := by decide +kernel
theorem dX11_up_76 : decode cX11_up 76 = .ok (.iconst 1, 1) := by decide +kernel
theorem dX11_up_77 : decode cX11_up 77 = .ok (.invokevirtual 149, 3) := by decide +kernel
theorem dX11_up_80 : decode cX11_up 80 = .ok (.ireturn, 1) := by decide +kernel
set_option maxRecDepth 20000 in
theorem ggX11_same_X11_lawOf : GoodIn wsX11_same wsX11_lawOf := goodIn_r _ [7, 2, 8, 9, 6, 10, 132, 133, 134, 135, 136, 137, 138, 139, 140, 141, 142, 143, 144, 145, 146, 147, 148, 149, 150, 151] (by decide +kernel) (by decide +kernel)
set_option maxRecDepth 20000 in
theorem gX11_same_X11_lawOf : GoodIn wsX11_same (wsV RX11 113 RX11 yX11_lawOf wsX11_lawOf) := goodIn_app (goodIn_of _ (by decide +kernel)) ggX11_same_X11_lawOf
set_option maxRecDepth 20000 in
theorem ggX11_same_X11_isHand : GoodIn wsX11_same wsX11_isHand := goodIn_r _ [14, 2, 8, 9, 6, 10, 132, 133, 134, 135, 136, 137, 138, 139, 140, 141, 142, 143, 144, 145, 146, 147, 148, 149, 150, 151] (by decide +kernel) (by decide +kernel)
set_option maxRecDepth 20000 in
theorem gX11_same_X11_isHand : GoodIn wsX11_same (wsV RX11 66 RX11 yX11_isHand wsX11_isHand) := goodIn_app (goodIn_of _ (by decide +kernel)) ggX11_same_X11_isHand
set_option maxRecDepth 20000 in
theorem ggX11_same_X11_isCoin : GoodIn wsX11_same wsX11_isCoin := goodIn_r _ [18, 2, 8, 9, 6, 10, 132, 133, 134, 135, 136, 137, 138, 139, 140, 141, 142, 143, 144, 145, 146, 147, 148, 149, 150, 151] (by decide +kernel) (by decide +kernel)
set_option maxRecDepth 20000 in
theorem gX11_same_X11_isCoin : GoodIn wsX11_same (wsV RX11 80 RX11 yX11_isCoin wsX11_isCoin) := goodIn_app (goodIn_of _ (by decide +kernel)) ggX11_same_X11_isCoin
set_option maxRecDepth 20000 in
theorem ggX11_same_X11_isPart : GoodIn wsX11_same wsX11_isPart := goodIn_r _ [21, 8, 9, 6, 10] (by decide +kernel) (by decide +kernel)
set_option maxRecDepth 20000 in
theorem gX11_same_X11_isPart : GoodIn wsX11_same (va_wsS RX11 153 yX11_isPart wsX11_isPart) := goodIn_app (goodIn_of _ (by decide +kernel)) ggX11_same_X11_isPart
set_option maxRecDepth 20000 in
theorem ggX11_same_X11_timesHeads : GoodIn wsX11_same wsX11_timesHeads := goodIn_r _ [25, 2, 26, 27, 28, 29, 30, 31, 32, 6, 33, 34, 35, 36, 37, 38, 39, 40, 41, 42, 43, 44, 45, 46, 47, 48, 49, 50, 51, 52, 53, 54, 55, 56, 57, 58, 59, 60, 61, 62, 63, 64, 65, 66, 67, 68, 69, 70, 71, 72, 73, 74, 75, 76, 77, 78, 79, 80, 81, 82, 83, 84, 85, 86, 87, 88, 89, 90, 91, 92, 93, 94, 95, 96, 97, 98, 99, 100, 101, 102, 103, 104, 105, 106, 107, 108, 109, 110, 111, 112, 113, 114, 115, 116, 132, 133, 134, 135, 136, 137, 138, 139, 140, 141, 142, 143, 144, 145, 146, 147, 148, 149, 150, 151, 152, 153, 154, 155, 156, 157, 158, 159, 160, 161, 162, 163, 164, 165, 166, 167, 168, 169, 170, 171, 172, 173, 174, 175, 176, 177, 178, 179, 180, 181, 182, 183, 184, 185, 186, 187, 188, 189, 190, 191, 192, 193, 194] (by decide +kernel) (by decide +kernel)
set_option maxRecDepth 20000 in
theorem gX11_same_X11_timesHeads : GoodIn wsX11_same (wsV RX11 158 RX11 yX11_timesHeads wsX11_timesHeads) := goodIn_app (goodIn_of _ (by decide +kernel)) ggX11_same_X11_timesHeads
set_option maxRecDepth 20000 in
theorem ggX11_same_X6_rises : GoodIn wsX11_same wsX6_rises := goodIn_r _ [120, 121, 122, 27, 28, 29, 138, 139, 140, 141, 142, 143, 144, 145, 146, 147, 148, 149, 150, 151] (by decide +kernel) (by decide +kernel)
set_option maxRecDepth 20000 in
theorem gX11_same_X6_rises_n162 : GoodIn wsX11_same (wsX6_rises) := ggX11_same_X6_rises
set_option maxRecDepth 20000 in
theorem ggX11_same_X11_inLowest : GoodIn wsX11_same wsX11_inLowest := goodIn_r _ [125, 126, 127, 28, 128, 129, 130, 6, 131] (by decide +kernel) (by decide +kernel)
set_option maxRecDepth 20000 in
theorem gX11_same_X11_inLowest : GoodIn wsX11_same (va_wsS RX11 165 yX11_inLowest wsX11_inLowest) := goodIn_app (goodIn_of _ (by decide +kernel)) ggX11_same_X11_inLowest
theorem dX11_same_0 : decode cX11_same 0 = .ok (.aload_n 0, 1) := by decide +kernel
theorem dX11_same_1 : decode cX11_same 1 = .ok (.iload_n 1, 1) := by decide +kernel
theorem dX11_same_2 : decode cX11_same 2 = .ok (.invokevirtual 113, 3) := by decide +kernel
theorem dX11_same_5 : decode cX11_same 5 = .ok (.astore 5, 2) := by decide +kernel
theorem dX11_same_7 : decode cX11_same 7 = .ok (.aload 5, 2) := by decide +kernel
theorem dX11_same_9 : decode cX11_same 9 = .ok (.ifnull 27, 3) := by decide +kernel
theorem dX11_same_12 : decode cX11_same 12 = .ok (.aload_n 0, 1) := by decide +kernel
theorem dX11_same_13 : decode cX11_same 13 = .ok (.iload_n 2, 1) := by decide +kernel
theorem dX11_same_14 : decode cX11_same 14 = .ok (.invokevirtual 66, 3) := by decide +kernel
theorem dX11_same_17 : decode cX11_same 17 = .ok (.ifCond .eq 19, 3) := by decide +kernel
theorem dX11_same_20 : decode cX11_same 20 = .ok (.aload_n 0, 1) := by decide +kernel
theorem dX11_same_21 : decode cX11_same 21 = .ok (.iload_n 3, 1) := by decide +kernel
theorem dX11_same_22 : decode cX11_same 22 = .ok (.invokevirtual 80, 3) := by decide +kernel
theorem dX11_same_25 : decode cX11_same 25 = .ok (.ifCond .eq 11, 3) := by decide +kernel
theorem dX11_same_28 : decode cX11_same 28 = .ok (.iload 4, 2) := by decide +kernel
theorem dX11_same_30 : decode cX11_same 30 = .ok (.invokestatic 153, 3) := by decide +kernel
theorem dX11_same_33 : decode cX11_same 33 = .ok (.ifCond .ne 7, 3) := by decide +kernel
theorem dX11_same_36 : decode cX11_same 36 = .ok (.ldc2_w 156, 3) := by decide +kernel
theorem dX11_same_39 : decode cX11_same 39 = .ok (.lreturn, 1) := by decide +kernel
theorem dX11_same_40 : decode cX11_same 40 = .ok (.aload_n 0, 1) := by decide +kernel
theorem dX11_same_41 : decode cX11_same 41 = .ok (.aload 5, 2) := by decide +kernel
theorem dX11_same_43 : decode cX11_same 43 = .ok (.iload_n 2, 1) := by decide +kernel
theorem dX11_same_44 : decode cX11_same 44 = .ok (.iload_n 3, 1) := by decide +kernel
theorem dX11_same_45 : decode cX11_same 45 = .ok (.iconst 1, 1) := by decide +kernel
theorem dX11_same_46 : decode cX11_same 46 = .ok (.invokevirtual 158, 3) := by decide +kernel
theorem dX11_same_49 : decode cX11_same 49 = .ok (.i2l, 1) := by decide +kernel
theorem dX11_same_50 : decode cX11_same 50 = .ok (.aload_n 0, 1) := by decide +kernel
theorem dX11_same_51 : decode cX11_same 51 = .ok (.getfield 12, 3) := by decide +kernel
theorem dX11_same_54 : decode cX11_same 54 = .ok (.iload_n 2, 1) := by decide +kernel
theorem dX11_same_55 : decode cX11_same 55 = .ok (.invokevirtual 162, 3) := by decide +kernel
theorem dX11_same_58 : decode cX11_same 58 = .ok (.i2l, 1) := by decide +kernel
theorem dX11_same_59 : decode cX11_same 59 = .ok (.iload 4, 2) := by decide +kernel
theorem dX11_same_61 : decode cX11_same 61 = .ok (.invokestatic 165, 3) := by decide +kernel
theorem dX11_same_64 : decode cX11_same 64 = .ok (.lreturn, 1) := by decide +kernel
set_option maxRecDepth 20000 in
theorem ggX11_heads_X11_lawOf : GoodIn wsX11_heads wsX11_lawOf := goodIn_r _ [8, 3, 9, 10, 7, 11, 136, 137, 138, 139, 140, 141, 142, 143, 144, 145, 146, 147, 148, 149, 150, 151, 152, 153, 154, 155] (by decide +kernel) (by decide +kernel)
set_option maxRecDepth 20000 in
theorem gX11_heads_X11_lawOf : GoodIn wsX11_heads (wsV RX11 113 RX11 yX11_lawOf wsX11_lawOf) := goodIn_app (goodIn_of _ (by decide +kernel)) ggX11_heads_X11_lawOf
set_option maxRecDepth 20000 in
theorem ggX11_heads_X11_isHand : GoodIn wsX11_heads wsX11_isHand := goodIn_r _ [15, 3, 9, 10, 7, 11, 136, 137, 138, 139, 140, 141, 142, 143, 144, 145, 146, 147, 148, 149, 150, 151, 152, 153, 154, 155] (by decide +kernel) (by decide +kernel)
set_option maxRecDepth 20000 in
theorem gX11_heads_X11_isHand : GoodIn wsX11_heads (wsV RX11 66 RX11 yX11_isHand wsX11_isHand) := goodIn_app (goodIn_of _ (by decide +kernel)) ggX11_heads_X11_isHand
set_option maxRecDepth 20000 in
theorem ggX11_heads_X11_isCoin : GoodIn wsX11_heads wsX11_isCoin := goodIn_r _ [19, 3, 9, 10, 7, 11, 136, 137, 138, 139, 140, 141, 142, 143, 144, 145, 146, 147, 148, 149, 150, 151, 152, 153, 154, 155] (by decide +kernel) (by decide +kernel)
set_option maxRecDepth 20000 in
theorem gX11_heads_X11_isCoin : GoodIn wsX11_heads (wsV RX11 80 RX11 yX11_isCoin wsX11_isCoin) := goodIn_app (goodIn_of _ (by decide +kernel)) ggX11_heads_X11_isCoin
set_option maxRecDepth 20000 in
theorem ggX11_heads_X11_isPart : GoodIn wsX11_heads wsX11_isPart := goodIn_r _ [22, 9, 10, 7, 11] (by decide +kernel) (by decide +kernel)
set_option maxRecDepth 20000 in
theorem gX11_heads_X11_isPart : GoodIn wsX11_heads (va_wsS RX11 153 yX11_isPart wsX11_isPart) := goodIn_app (goodIn_of _ (by decide +kernel)) ggX11_heads_X11_isPart
set_option maxRecDepth 20000 in
theorem ggX11_heads_X11_isPercent : GoodIn wsX11_heads wsX11_isPercent := goodIn_r _ [25, 9, 10, 7, 11] (by decide +kernel) (by decide +kernel)
set_option maxRecDepth 20000 in
theorem gX11_heads_X11_isPercent : GoodIn wsX11_heads (va_wsS RX11 169 yX11_isPercent wsX11_isPercent) := goodIn_app (goodIn_of _ (by decide +kernel)) ggX11_heads_X11_isPercent
set_option maxRecDepth 20000 in
theorem ggX11_heads_X11_timesHeads : GoodIn wsX11_heads wsX11_timesHeads := goodIn_r _ [29, 3, 30, 31, 32, 33, 34, 35, 36, 7, 37, 38, 39, 40, 41, 42, 43, 44, 45, 46, 47, 48, 49, 50, 51, 52, 53, 54, 55, 56, 57, 58, 59, 60, 61, 62, 63, 64, 65, 66, 67, 68, 69, 70, 71, 72, 73, 74, 75, 76, 77, 78, 79, 80, 81, 82, 83, 84, 85, 86, 87, 88, 89, 90, 91, 92, 93, 94, 95, 96, 97, 98, 99, 100, 101, 102, 103, 104, 105, 106, 107, 108, 109, 110, 111, 112, 113, 114, 115, 116, 117, 118, 119, 120, 136, 137, 138, 139, 140, 141, 142, 143, 144, 145, 146, 147, 148, 149, 150, 151, 152, 153, 154, 155, 156, 157, 158, 159, 160, 161, 162, 163, 164, 165, 166, 167, 168, 169, 170, 171, 172, 173, 174, 175, 176, 177, 178, 179, 180, 181, 182, 183, 184, 185, 186, 187, 188, 189, 190, 191, 192, 193, 194, 195, 196, 197, 198] (by decide +kernel) (by decide +kernel)
set_option maxRecDepth 20000 in
theorem gX11_heads_X11_timesHeads : GoodIn wsX11_heads (wsV RX11 158 RX11 yX11_timesHeads wsX11_timesHeads) := goodIn_app (goodIn_of _ (by decide +kernel)) ggX11_heads_X11_timesHeads
set_option maxRecDepth 20000 in
theorem ggX11_heads_X6_rises : GoodIn wsX11_heads wsX6_rises := goodIn_r _ [124, 125, 126, 31, 32, 33, 142, 143, 144, 145, 146, 147, 148, 149, 150, 151, 152, 153, 154, 155] (by decide +kernel) (by decide +kernel)
set_option maxRecDepth 20000 in
theorem gX11_heads_X6_rises_n162 : GoodIn wsX11_heads (wsX6_rises) := ggX11_heads_X6_rises
set_option maxRecDepth 20000 in
theorem ggX11_heads_X11_inLowest : GoodIn wsX11_heads wsX11_inLowest := goodIn_r _ [129, 130, 131, 32, 132, 133, 134, 7, 135] (by decide +kernel) (by decide +kernel)
set_option maxRecDepth 20000 in
theorem gX11_heads_X11_inLowest : GoodIn wsX11_heads (va_wsS RX11 165 yX11_inLowest wsX11_inLowest) := goodIn_app (goodIn_of _ (by decide +kernel)) ggX11_heads_X11_inLowest
theorem dX11_heads_0 : decode cX11_heads 0 = .ok (.aload_n 0, 1) := by decide +kernel
theorem dX11_heads_1 : decode cX11_heads 1 = .ok (.iload_n 1, 1) := by decide +kernel
theorem dX11_heads_2 : decode cX11_heads 2 = .ok (.invokevirtual 113, 3) := by decide +kernel
theorem dX11_heads_5 : decode cX11_heads 5 = .ok (.astore 6, 2) := by decide +kernel
theorem dX11_heads_7 : decode cX11_heads 7 = .ok (.aload 6, 2) := by decide +kernel
theorem dX11_heads_9 : decode cX11_heads 9 = .ok (.ifnull 35, 3) := by decide +kernel
theorem dX11_heads_12 : decode cX11_heads 12 = .ok (.aload_n 0, 1) := by decide +kernel
theorem dX11_heads_13 : decode cX11_heads 13 = .ok (.iload_n 2, 1) := by decide +kernel
theorem dX11_heads_14 : decode cX11_heads 14 = .ok (.invokevirtual 66, 3) := by decide +kernel
theorem dX11_heads_17 : decode cX11_heads 17 = .ok (.ifCond .eq 27, 3) := by decide +kernel
theorem dX11_heads_20 : decode cX11_heads 20 = .ok (.aload_n 0, 1) := by decide +kernel
theorem dX11_heads_21 : decode cX11_heads 21 = .ok (.iload_n 3, 1) := by decide +kernel
theorem dX11_heads_22 : decode cX11_heads 22 = .ok (.invokevirtual 80, 3) := by decide +kernel
theorem dX11_heads_25 : decode cX11_heads 25 = .ok (.ifCond .eq 19, 3) := by decide +kernel
theorem dX11_heads_28 : decode cX11_heads 28 = .ok (.iload 5, 2) := by decide +kernel
theorem dX11_heads_30 : decode cX11_heads 30 = .ok (.invokestatic 153, 3) := by decide +kernel
theorem dX11_heads_33 : decode cX11_heads 33 = .ok (.ifCond .eq 11, 3) := by decide +kernel
theorem dX11_heads_36 : decode cX11_heads 36 = .ok (.iload 4, 2) := by decide +kernel
theorem dX11_heads_38 : decode cX11_heads 38 = .ok (.invokestatic 169, 3) := by decide +kernel
theorem dX11_heads_41 : decode cX11_heads 41 = .ok (.ifCond .ne 7, 3) := by decide +kernel
theorem dX11_heads_44 : decode cX11_heads 44 = .ok (.ldc2_w 156, 3) := by decide +kernel
theorem dX11_heads_47 : decode cX11_heads 47 = .ok (.lreturn, 1) := by decide +kernel
theorem dX11_heads_48 : decode cX11_heads 48 = .ok (.iload 4, 2) := by decide +kernel
theorem dX11_heads_50 : decode cX11_heads 50 = .ok (.aload_n 0, 1) := by decide +kernel
theorem dX11_heads_51 : decode cX11_heads 51 = .ok (.aload 6, 2) := by decide +kernel
theorem dX11_heads_53 : decode cX11_heads 53 = .ok (.iload_n 2, 1) := by decide +kernel
theorem dX11_heads_54 : decode cX11_heads 54 = .ok (.iload_n 3, 1) := by decide +kernel
theorem dX11_heads_55 : decode cX11_heads 55 = .ok (.iconst 1, 1) := by decide +kernel
theorem dX11_heads_56 : decode cX11_heads 56 = .ok (.invokevirtual 158, 3) := by decide +kernel
theorem dX11_heads_59 : decode cX11_heads 59 = .ok (.imul, 1) := by decide +kernel
theorem dX11_heads_60 : decode cX11_heads 60 = .ok (.i2l, 1) := by decide +kernel
theorem dX11_heads_61 : decode cX11_heads 61 = .ok (.lstore 7, 2) := by decide +kernel
theorem dX11_heads_63 : decode cX11_heads 63 = .ok (.bipush 100, 2) := by decide +kernel
theorem dX11_heads_65 : decode cX11_heads 65 = .ok (.iload 4, 2) := by decide +kernel
theorem dX11_heads_67 : decode cX11_heads 67 = .ok (.isub, 1) := by decide +kernel
theorem dX11_heads_68 : decode cX11_heads 68 = .ok (.aload_n 0, 1) := by decide +kernel
theorem dX11_heads_69 : decode cX11_heads 69 = .ok (.aload 6, 2) := by decide +kernel
theorem dX11_heads_71 : decode cX11_heads 71 = .ok (.iload_n 2, 1) := by decide +kernel
theorem dX11_heads_72 : decode cX11_heads 72 = .ok (.iload_n 3, 1) := by decide +kernel
theorem dX11_heads_73 : decode cX11_heads 73 = .ok (.iconst 0, 1) := by decide +kernel
theorem dX11_heads_74 : decode cX11_heads 74 = .ok (.invokevirtual 158, 3) := by decide +kernel
theorem dX11_heads_77 : decode cX11_heads 77 = .ok (.imul, 1) := by decide +kernel
theorem dX11_heads_78 : decode cX11_heads 78 = .ok (.i2l, 1) := by decide +kernel
theorem dX11_heads_79 : decode cX11_heads 79 = .ok (.lstore 9, 2) := by decide +kernel
theorem dX11_heads_81 : decode cX11_heads 81 = .ok (.lload 7, 2) := by decide +kernel
theorem dX11_heads_83 : decode cX11_heads 83 = .ok (.lload 9, 2) := by decide +kernel
theorem dX11_heads_85 : decode cX11_heads 85 = .ok (.ladd, 1) := by decide +kernel
theorem dX11_heads_86 : decode cX11_heads 86 = .ok (.ldc2_w 172, 3) := by decide +kernel
theorem dX11_heads_89 : decode cX11_heads 89 = .ok (.aload_n 0, 1) := by decide +kernel
theorem dX11_heads_90 : decode cX11_heads 90 = .ok (.getfield 12, 3) := by decide +kernel
theorem dX11_heads_93 : decode cX11_heads 93 = .ok (.iload_n 2, 1) := by decide +kernel
theorem dX11_heads_94 : decode cX11_heads 94 = .ok (.invokevirtual 162, 3) := by decide +kernel
theorem dX11_heads_97 : decode cX11_heads 97 = .ok (.i2l, 1) := by decide +kernel
theorem dX11_heads_98 : decode cX11_heads 98 = .ok (.lmul, 1) := by decide +kernel
theorem dX11_heads_99 : decode cX11_heads 99 = .ok (.iload 5, 2) := by decide +kernel
theorem dX11_heads_101 : decode cX11_heads 101 = .ok (.invokestatic 165, 3) := by decide +kernel
theorem dX11_heads_104 : decode cX11_heads 104 = .ok (.lreturn, 1) := by decide +kernel
set_option maxRecDepth 20000 in
theorem ggX11_steady_X11_lawOf : GoodIn wsX11_steady wsX11_lawOf := goodIn_r _ [5, 6, 7, 8, 4, 9, 106, 107, 108, 109, 110, 111, 112, 113, 114, 115, 116, 117, 118, 119, 120, 121, 122, 123, 124, 125] (by decide +kernel) (by decide +kernel)
set_option maxRecDepth 20000 in
theorem gX11_steady_X11_lawOf : GoodIn wsX11_steady (wsV RX11 113 RX11 yX11_lawOf wsX11_lawOf) := goodIn_app (goodIn_of _ (by decide +kernel)) ggX11_steady_X11_lawOf
set_option maxRecDepth 20000 in
theorem ggX11_steady_X11_isHand : GoodIn wsX11_steady wsX11_isHand := goodIn_r _ [13, 6, 7, 8, 4, 9, 106, 107, 108, 109, 110, 111, 112, 113, 114, 115, 116, 117, 118, 119, 120, 121, 122, 123, 124, 125] (by decide +kernel) (by decide +kernel)
set_option maxRecDepth 20000 in
theorem gX11_steady_X11_isHand : GoodIn wsX11_steady (wsV RX11 66 RX11 yX11_isHand wsX11_isHand) := goodIn_app (goodIn_of _ (by decide +kernel)) ggX11_steady_X11_isHand
set_option maxRecDepth 20000 in
theorem ggX11_steady_X11_isCoin : GoodIn wsX11_steady wsX11_isCoin := goodIn_r _ [17, 6, 7, 8, 4, 9, 106, 107, 108, 109, 110, 111, 112, 113, 114, 115, 116, 117, 118, 119, 120, 121, 122, 123, 124, 125] (by decide +kernel) (by decide +kernel)
set_option maxRecDepth 20000 in
theorem gX11_steady_X11_isCoin : GoodIn wsX11_steady (wsV RX11 80 RX11 yX11_isCoin wsX11_isCoin) := goodIn_app (goodIn_of _ (by decide +kernel)) ggX11_steady_X11_isCoin
set_option maxRecDepth 20000 in
theorem ggX11_steady_X11_isWithin : GoodIn wsX11_steady wsX11_isWithin := goodIn_r _ [9] (by decide +kernel) (by decide +kernel)
set_option maxRecDepth 20000 in
theorem gX11_steady_X11_isWithin : GoodIn wsX11_steady (va_wsS RX11 42 yX11_isWithin wsX11_isWithin) := goodIn_app (goodIn_of _ (by decide +kernel)) ggX11_steady_X11_isWithin
set_option maxRecDepth 20000 in
theorem ggX11_steady_X11_comes : GoodIn wsX11_steady wsX11_comes := goodIn_r _ [21, 22, 23, 24, 25, 4, 26, 6, 27, 28, 29, 30, 31, 32, 33, 34, 35, 36, 37, 38, 39, 40, 41, 42, 43, 44, 45, 46, 47, 48, 49, 50, 51, 52, 53, 54, 55, 56, 57, 58, 59, 60, 61, 62, 63, 64, 65, 66, 67, 68, 69, 70, 71, 72, 73, 74, 75, 76, 77, 78, 79, 80, 81, 82, 83, 84, 85, 86, 87, 88, 89, 90, 91, 92, 93, 94, 95, 96, 97, 98, 99, 100, 101, 102, 103, 104, 105, 106, 107, 108, 109, 110, 111, 126, 127, 128, 129, 130, 131, 132, 133, 112, 113, 114, 115, 116, 117, 118, 119, 120, 121, 122, 123, 124, 125, 134, 135, 136, 137, 138, 139, 140, 141, 142, 143, 144, 145, 146, 147, 148, 149, 150, 151, 152, 153, 154, 155, 156, 157, 158, 159, 160, 161, 162, 163, 164, 165, 166, 167, 168] (by decide +kernel) (by decide +kernel)
set_option maxRecDepth 20000 in
theorem gX11_steady_X11_comes : GoodIn wsX11_steady (wsV RX11 174 RX11 yX11_comes wsX11_comes) := goodIn_app (goodIn_of _ (by decide +kernel)) ggX11_steady_X11_comes
theorem dX11_steady_0 : decode cX11_steady 0 = .ok (.aload_n 0, 1) := by decide +kernel
theorem dX11_steady_1 : decode cX11_steady 1 = .ok (.iload_n 1, 1) := by decide +kernel
theorem dX11_steady_2 : decode cX11_steady 2 = .ok (.invokevirtual 113, 3) := by decide +kernel
theorem dX11_steady_5 : decode cX11_steady 5 = .ok (.astore 5, 2) := by decide +kernel
theorem dX11_steady_7 : decode cX11_steady 7 = .ok (.aload 5, 2) := by decide +kernel
theorem dX11_steady_9 : decode cX11_steady 9 = .ok (.ifnull 29, 3) := by decide +kernel
theorem dX11_steady_12 : decode cX11_steady 12 = .ok (.aload_n 0, 1) := by decide +kernel
theorem dX11_steady_13 : decode cX11_steady 13 = .ok (.iload_n 2, 1) := by decide +kernel
theorem dX11_steady_14 : decode cX11_steady 14 = .ok (.invokevirtual 66, 3) := by decide +kernel
theorem dX11_steady_17 : decode cX11_steady 17 = .ok (.ifCond .eq 21, 3) := by decide +kernel
theorem dX11_steady_20 : decode cX11_steady 20 = .ok (.aload_n 0, 1) := by decide +kernel
theorem dX11_steady_21 : decode cX11_steady 21 = .ok (.iload_n 3, 1) := by decide +kernel
theorem dX11_steady_22 : decode cX11_steady 22 = .ok (.invokevirtual 80, 3) := by decide +kernel
theorem dX11_steady_25 : decode cX11_steady 25 = .ok (.ifCond .eq 13, 3) := by decide +kernel
theorem dX11_steady_28 : decode cX11_steady 28 = .ok (.iload 4, 2) := by decide +kernel
theorem dX11_steady_30 : decode cX11_steady 30 = .ok (.iconst 0, 1) := by decide +kernel
theorem dX11_steady_31 : decode cX11_steady 31 = .ok (.iconst 1, 1) := by decide +kernel
theorem dX11_steady_32 : decode cX11_steady 32 = .ok (.invokestatic 42, 3) := by decide +kernel
theorem dX11_steady_35 : decode cX11_steady 35 = .ok (.ifCond .ne 5, 3) := by decide +kernel
theorem dX11_steady_38 : decode cX11_steady 38 = .ok (.iconst (-1), 1) := by decide +kernel
theorem dX11_steady_39 : decode cX11_steady 39 = .ok (.ireturn, 1) := by decide +kernel
theorem dX11_steady_40 : decode cX11_steady 40 = .ok (.iconst 0, 1) := by decide +kernel
theorem dX11_steady_41 : decode cX11_steady 41 = .ok (.istore 6, 2) := by decide +kernel
theorem dX11_steady_43 : decode cX11_steady 43 = .ok (.bipush (-5), 2) := by decide +kernel
theorem dX11_steady_45 : decode cX11_steady 45 = .ok (.istore 7, 2) := by decide +kernel
theorem dX11_steady_47 : decode cX11_steady 47 = .ok (.iconst 0, 1) := by decide +kernel
theorem dX11_steady_48 : decode cX11_steady 48 = .ok (.istore 8, 2) := by decide +kernel
theorem dX11_steady_50 : decode cX11_steady 50 = .ok (.iconst 1, 1) := by decide +kernel
theorem dX11_steady_51 : decode cX11_steady 51 = .ok (.istore 9, 2) := by decide +kernel
theorem dX11_steady_53 : decode cX11_steady 53 = .ok (.iload 9, 2) := by decide +kernel
theorem dX11_steady_55 : decode cX11_steady 55 = .ok (.bipush 40, 2) := by decide +kernel
theorem dX11_steady_57 : decode cX11_steady 57 = .ok (.if_icmp .gt 59, 3) := by decide +kernel
theorem dX11_steady_60 : decode cX11_steady 60 = .ok (.aload_n 0, 1) := by decide +kernel
theorem dX11_steady_61 : decode cX11_steady 61 = .ok (.aload 5, 2) := by decide +kernel
theorem dX11_steady_63 : decode cX11_steady 63 = .ok (.iload_n 2, 1) := by decide +kernel
theorem dX11_steady_64 : decode cX11_steady 64 = .ok (.iload_n 3, 1) := by decide +kernel
theorem dX11_steady_65 : decode cX11_steady 65 = .ok (.iload 9, 2) := by decide +kernel
theorem dX11_steady_67 : decode cX11_steady 67 = .ok (.iconst 1, 1) := by decide +kernel
theorem dX11_steady_68 : decode cX11_steady 68 = .ok (.invokevirtual 174, 3) := by decide +kernel
theorem dX11_steady_71 : decode cX11_steady 71 = .ok (.istore 10, 2) := by decide +kernel
theorem dX11_steady_73 : decode cX11_steady 73 = .ok (.iload 10, 2) := by decide +kernel
theorem dX11_steady_75 : decode cX11_steady 75 = .ok (.iconst 1, 1) := by decide +kernel
theorem dX11_steady_76 : decode cX11_steady 76 = .ok (.if_icmp .ne 6, 3) := by decide +kernel
theorem dX11_steady_79 : decode cX11_steady 79 = .ok (.iinc 6 1, 3) := by decide +kernel
theorem dX11_steady_82 : decode cX11_steady 82 = .ok (.iload 9, 2) := by decide +kernel
theorem dX11_steady_84 : decode cX11_steady 84 = .ok (.iconst 1, 1) := by decide +kernel
theorem dX11_steady_85 : decode cX11_steady 85 = .ok (.if_icmp .le 21, 3) := by decide +kernel
theorem dX11_steady_88 : decode cX11_steady 88 = .ok (.iload 10, 2) := by decide +kernel
theorem dX11_steady_90 : decode cX11_steady 90 = .ok (.iload 8, 2) := by decide +kernel
theorem dX11_steady_92 : decode cX11_steady 92 = .ok (.if_icmp .eq 14, 3) := by decide +kernel
theorem dX11_steady_95 : decode cX11_steady 95 = .ok (.iload 7, 2) := by decide +kernel
theorem dX11_steady_97 : decode cX11_steady 97 = .ok (.bipush (-5), 2) := by decide +kernel
theorem dX11_steady_99 : decode cX11_steady 99 = .ok (.if_icmp .ne 7, 3) := by decide +kernel
theorem dX11_steady_102 : decode cX11_steady 102 = .ok (.iload 9, 2) := by decide +kernel
theorem dX11_steady_104 : decode cX11_steady 104 = .ok (.istore 7, 2) := by decide +kernel
theorem dX11_steady_106 : decode cX11_steady 106 = .ok (.iload 10, 2) := by decide +kernel
theorem dX11_steady_108 : decode cX11_steady 108 = .ok (.istore 8, 2) := by decide +kernel
theorem dX11_steady_110 : decode cX11_steady 110 = .ok (.iinc 9 1, 3) := by decide +kernel
theorem dX11_steady_113 : decode cX11_steady 113 = .ok (.goto (-60), 3) := by decide +kernel
theorem dX11_steady_116 : decode cX11_steady 116 = .ok (.iload 4, 2) := by decide +kernel
theorem dX11_steady_118 : decode cX11_steady 118 = .ok (.ifCond .ne 8, 3) := by decide +kernel
theorem dX11_steady_121 : decode cX11_steady 121 = .ok (.iload 6, 2) := by decide +kernel
theorem dX11_steady_123 : decode cX11_steady 123 = .ok (.goto 5, 3) := by decide +kernel
theorem dX11_steady_126 : decode cX11_steady 126 = .ok (.iload 7, 2) := by decide +kernel
theorem dX11_steady_128 : decode cX11_steady 128 = .ok (.ireturn, 1) := by decide +kernel
set_option maxRecDepth 20000 in
theorem ggX11_differ_X11_leaning : GoodIn wsX11_differ wsX11_leaning := goodIn_r _ [13, 1, 14, 15, 16, 17, 18, 19, 20, 21, 22, 23, 24, 25, 26, 27, 28, 29, 30, 31, 32, 33, 34, 35, 36, 37, 38, 39, 40, 41, 42, 43, 44, 45, 46, 47] (by decide +kernel) (by decide +kernel)
set_option maxRecDepth 20000 in
theorem gX11_differ_X11_leaning : GoodIn wsX11_differ (wsV RX11 70 RX11 yX11_leaning wsX11_leaning) := goodIn_app (goodIn_of _ (by decide +kernel)) ggX11_differ_X11_leaning
theorem dX11_differ_0 : decode cX11_differ 0 = .ok (.iconst 0, 1) := by decide +kernel
theorem dX11_differ_1 : decode cX11_differ 1 = .ok (.istore_n 1, 1) := by decide +kernel
theorem dX11_differ_2 : decode cX11_differ 2 = .ok (.iconst 0, 1) := by decide +kernel
theorem dX11_differ_3 : decode cX11_differ 3 = .ok (.istore_n 2, 1) := by decide +kernel
theorem dX11_differ_4 : decode cX11_differ 4 = .ok (.iconst 0, 1) := by decide +kernel
theorem dX11_differ_5 : decode cX11_differ 5 = .ok (.istore_n 3, 1) := by decide +kernel
theorem dX11_differ_6 : decode cX11_differ 6 = .ok (.iconst 0, 1) := by decide +kernel
theorem dX11_differ_7 : decode cX11_differ 7 = .ok (.istore 4, 2) := by decide +kernel
theorem dX11_differ_9 : decode cX11_differ 9 = .ok (.iload 4, 2) := by decide +kernel
theorem dX11_differ_11 : decode cX11_differ 11 = .ok (.aload_n 0, 1) := by decide +kernel
theorem dX11_differ_12 : decode cX11_differ 12 = .ok (.getfield 12, 3) := by decide +kernel
theorem dX11_differ_15 : decode cX11_differ 15 = .ok (.getfield 57, 3) := by decide +kernel
theorem dX11_differ_18 : decode cX11_differ 18 = .ok (.if_icmp .ge 62, 3) := by decide +kernel
theorem dX11_differ_21 : decode cX11_differ 21 = .ok (.aload_n 0, 1) := by decide +kernel
theorem dX11_differ_22 : decode cX11_differ 22 = .ok (.iload 4, 2) := by decide +kernel
theorem dX11_differ_24 : decode cX11_differ 24 = .ok (.invokevirtual 70, 3) := by decide +kernel
theorem dX11_differ_27 : decode cX11_differ 27 = .ok (.istore 5, 2) := by decide +kernel
theorem dX11_differ_29 : decode cX11_differ 29 = .ok (.iload 5, 2) := by decide +kernel
theorem dX11_differ_31 : decode cX11_differ 31 = .ok (.bipush (-5), 2) := by decide +kernel
theorem dX11_differ_33 : decode cX11_differ 33 = .ok (.if_icmp .ne 6, 3) := by decide +kernel
theorem dX11_differ_36 : decode cX11_differ 36 = .ok (.goto 38, 3) := by decide +kernel
theorem dX11_differ_39 : decode cX11_differ 39 = .ok (.iload_n 1, 1) := by decide +kernel
theorem dX11_differ_40 : decode cX11_differ 40 = .ok (.ifCond .ne 8, 3) := by decide +kernel
theorem dX11_differ_43 : decode cX11_differ 43 = .ok (.iload 5, 2) := by decide +kernel
theorem dX11_differ_45 : decode cX11_differ 45 = .ok (.goto 9, 3) := by decide +kernel
theorem dX11_differ_48 : decode cX11_differ 48 = .ok (.iload_n 2, 1) := by decide +kernel
theorem dX11_differ_49 : decode cX11_differ 49 = .ok (.iload 5, 2) := by decide +kernel
theorem dX11_differ_51 : decode cX11_differ 51 = .ok (.invokestatic 178, 3) := by decide +kernel
theorem dX11_differ_54 : decode cX11_differ 54 = .ok (.istore_n 2, 1) := by decide +kernel
theorem dX11_differ_55 : decode cX11_differ 55 = .ok (.iload_n 1, 1) := by decide +kernel
theorem dX11_differ_56 : decode cX11_differ 56 = .ok (.ifCond .ne 8, 3) := by decide +kernel
theorem dX11_differ_59 : decode cX11_differ 59 = .ok (.iload 5, 2) := by decide +kernel
theorem dX11_differ_61 : decode cX11_differ 61 = .ok (.goto 9, 3) := by decide +kernel
theorem dX11_differ_64 : decode cX11_differ 64 = .ok (.iload_n 3, 1) := by decide +kernel
theorem dX11_differ_65 : decode cX11_differ 65 = .ok (.iload 5, 2) := by decide +kernel
theorem dX11_differ_67 : decode cX11_differ 67 = .ok (.invokestatic 184, 3) := by decide +kernel
theorem dX11_differ_70 : decode cX11_differ 70 = .ok (.istore_n 3, 1) := by decide +kernel
theorem dX11_differ_71 : decode cX11_differ 71 = .ok (.iinc 1 1, 3) := by decide +kernel
theorem dX11_differ_74 : decode cX11_differ 74 = .ok (.iinc 4 1, 3) := by decide +kernel
theorem dX11_differ_77 : decode cX11_differ 77 = .ok (.goto (-68), 3) := by decide +kernel
theorem dX11_differ_80 : decode cX11_differ 80 = .ok (.iload_n 1, 1) := by decide +kernel
theorem dX11_differ_81 : decode cX11_differ 81 = .ok (.iconst 2, 1) := by decide +kernel
theorem dX11_differ_82 : decode cX11_differ 82 = .ok (.if_icmp .ge 8, 3) := by decide +kernel
theorem dX11_differ_85 : decode cX11_differ 85 = .ok (.bipush (-5), 2) := by decide +kernel
theorem dX11_differ_87 : decode cX11_differ 87 = .ok (.goto 6, 3) := by decide +kernel
theorem dX11_differ_90 : decode cX11_differ 90 = .ok (.iload_n 3, 1) := by decide +kernel
theorem dX11_differ_91 : decode cX11_differ 91 = .ok (.iload_n 2, 1) := by decide +kernel
theorem dX11_differ_92 : decode cX11_differ 92 = .ok (.isub, 1) := by decide +kernel
theorem dX11_differ_93 : decode cX11_differ 93 = .ok (.ireturn, 1) := by decide +kernel
set_option maxRecDepth 20000 in
theorem ggX11_far_X11_isHand : GoodIn wsX11_far wsX11_isHand := goodIn_r _ [7, 2, 8, 9, 6, 10, 44, 45, 46, 47, 48, 49, 50, 51, 52, 53, 54, 55, 56, 57, 58, 59, 60, 61, 62, 63] (by decide +kernel) (by decide +kernel)
set_option maxRecDepth 20000 in
theorem gX11_far_X11_isHand : GoodIn wsX11_far (wsV RX11 66 RX11 yX11_isHand wsX11_isHand) := goodIn_app (goodIn_of _ (by decide +kernel)) ggX11_far_X11_isHand
set_option maxRecDepth 20000 in
theorem ggX11_far_X11_isWithin : GoodIn wsX11_far wsX11_isWithin := goodIn_r _ [10] (by decide +kernel) (by decide +kernel)
set_option maxRecDepth 20000 in
theorem gX11_far_X11_isWithin : GoodIn wsX11_far (va_wsS RX11 42 yX11_isWithin wsX11_isWithin) := goodIn_app (goodIn_of _ (by decide +kernel)) ggX11_far_X11_isWithin
set_option maxRecDepth 20000 in
theorem ggX11_far_X11_isPart : GoodIn wsX11_far wsX11_isPart := goodIn_r _ [13, 8, 9, 6, 10] (by decide +kernel) (by decide +kernel)
set_option maxRecDepth 20000 in
theorem gX11_far_X11_isPart : GoodIn wsX11_far (va_wsS RX11 153 yX11_isPart wsX11_isPart) := goodIn_app (goodIn_of _ (by decide +kernel)) ggX11_far_X11_isPart
set_option maxRecDepth 20000 in
theorem ggX11_far_X6_allThrown : GoodIn wsX11_far wsX6_allThrown := goodIn_r _ [17, 18, 19, 20, 21, 15, 22, 23, 50, 51, 52, 53, 54, 55, 56, 57, 58, 59, 60, 61, 62, 63] (by decide +kernel) (by decide +kernel)
set_option maxRecDepth 20000 in
theorem gX11_far_X6_allThrown_n74 : GoodIn wsX11_far (wsX6_allThrown) := ggX11_far_X6_allThrown
set_option maxRecDepth 20000 in
theorem ggX11_far_X6_allAlike : GoodIn wsX11_far wsX6_allAlike := goodIn_r _ [26, 27, 19, 20, 21, 15, 22, 23, 50, 51, 52, 53, 54, 55, 56, 57, 58, 59, 60, 61, 62, 63] (by decide +kernel) (by decide +kernel)
set_option maxRecDepth 20000 in
theorem gX11_far_X6_allAlike_n77 : GoodIn wsX11_far (wsX6_allAlike) := ggX11_far_X6_allAlike
set_option maxRecDepth 20000 in
theorem ggX11_far_X11_choices : GoodIn wsX11_far wsX11_choices := goodIn_r _ [30] (by decide +kernel) (by decide +kernel)
set_option maxRecDepth 20000 in
theorem gX11_far_X11_choices : GoodIn wsX11_far (va_wsS RX11 187 yX11_choices wsX11_choices) := goodIn_app (goodIn_of _ (by decide +kernel)) ggX11_far_X11_choices
set_option maxRecDepth 20000 in
theorem ggX11_far_X11_choicesBetween : GoodIn wsX11_far wsX11_choicesBetween := goodIn_r _ [33, 28, 29, 6, 30] (by decide +kernel) (by decide +kernel)
set_option maxRecDepth 20000 in
theorem gX11_far_X11_choicesBetween : GoodIn wsX11_far (va_wsS RX11 191 yX11_choicesBetween wsX11_choicesBetween) := goodIn_app (goodIn_of _ (by decide +kernel)) ggX11_far_X11_choicesBetween
set_option maxRecDepth 20000 in
theorem ggX11_far_X11_inLowest : GoodIn wsX11_far wsX11_inLowest := goodIn_r _ [36, 37, 38, 39, 40, 41, 42, 6, 43] (by decide +kernel) (by decide +kernel)
set_option maxRecDepth 20000 in
theorem gX11_far_X11_inLowest : GoodIn wsX11_far (va_wsS RX11 165 yX11_inLowest wsX11_inLowest) := goodIn_app (goodIn_of _ (by decide +kernel)) ggX11_far_X11_inLowest
theorem dX11_far_0 : decode cX11_far 0 = .ok (.aload_n 0, 1) := by decide +kernel
theorem dX11_far_1 : decode cX11_far 1 = .ok (.iload_n 1, 1) := by decide +kernel
theorem dX11_far_2 : decode cX11_far 2 = .ok (.invokevirtual 66, 3) := by decide +kernel
theorem dX11_far_5 : decode cX11_far 5 = .ok (.ifCond .eq 19, 3) := by decide +kernel
theorem dX11_far_8 : decode cX11_far 8 = .ok (.iload_n 2, 1) := by decide +kernel
theorem dX11_far_9 : decode cX11_far 9 = .ok (.iconst 0, 1) := by decide +kernel
theorem dX11_far_10 : decode cX11_far 10 = .ok (.iconst 1, 1) := by decide +kernel
theorem dX11_far_11 : decode cX11_far 11 = .ok (.invokestatic 42, 3) := by decide +kernel
theorem dX11_far_14 : decode cX11_far 14 = .ok (.ifCond .eq 10, 3) := by decide +kernel
theorem dX11_far_17 : decode cX11_far 17 = .ok (.iload_n 3, 1) := by decide +kernel
theorem dX11_far_18 : decode cX11_far 18 = .ok (.invokestatic 153, 3) := by decide +kernel
theorem dX11_far_21 : decode cX11_far 21 = .ok (.ifCond .ne 7, 3) := by decide +kernel
theorem dX11_far_24 : decode cX11_far 24 = .ok (.ldc2_w 156, 3) := by decide +kernel
theorem dX11_far_27 : decode cX11_far 27 = .ok (.lreturn, 1) := by decide +kernel
theorem dX11_far_28 : decode cX11_far 28 = .ok (.aload_n 0, 1) := by decide +kernel
theorem dX11_far_29 : decode cX11_far 29 = .ok (.getfield 12, 3) := by decide +kernel
theorem dX11_far_32 : decode cX11_far 32 = .ok (.iload_n 1, 1) := by decide +kernel
theorem dX11_far_33 : decode cX11_far 33 = .ok (.invokevirtual 74, 3) := by decide +kernel
theorem dX11_far_36 : decode cX11_far 36 = .ok (.istore 4, 2) := by decide +kernel
theorem dX11_far_38 : decode cX11_far 38 = .ok (.aload_n 0, 1) := by decide +kernel
theorem dX11_far_39 : decode cX11_far 39 = .ok (.getfield 12, 3) := by decide +kernel
theorem dX11_far_42 : decode cX11_far 42 = .ok (.iload_n 1, 1) := by decide +kernel
theorem dX11_far_43 : decode cX11_far 43 = .ok (.invokevirtual 77, 3) := by decide +kernel
theorem dX11_far_46 : decode cX11_far 46 = .ok (.istore 5, 2) := by decide +kernel
theorem dX11_far_48 : decode cX11_far 48 = .ok (.iload 4, 2) := by decide +kernel
theorem dX11_far_50 : decode cX11_far 50 = .ok (.bipush 30, 2) := by decide +kernel
theorem dX11_far_52 : decode cX11_far 52 = .ok (.if_icmp .le 7, 3) := by decide +kernel
theorem dX11_far_55 : decode cX11_far 55 = .ok (.ldc2_w 156, 3) := by decide +kernel
theorem dX11_far_58 : decode cX11_far 58 = .ok (.lreturn, 1) := by decide +kernel
theorem dX11_far_59 : decode cX11_far 59 = .ok (.iload_n 2, 1) := by decide +kernel
theorem dX11_far_60 : decode cX11_far 60 = .ok (.ifCond .ne 13, 3) := by decide +kernel
theorem dX11_far_63 : decode cX11_far 63 = .ok (.iload 4, 2) := by decide +kernel
theorem dX11_far_65 : decode cX11_far 65 = .ok (.iload 5, 2) := by decide +kernel
theorem dX11_far_67 : decode cX11_far 67 = .ok (.invokestatic 187, 3) := by decide +kernel
theorem dX11_far_70 : decode cX11_far 70 = .ok (.goto 12, 3) := by decide +kernel
theorem dX11_far_73 : decode cX11_far 73 = .ok (.iload 4, 2) := by decide +kernel
theorem dX11_far_75 : decode cX11_far 75 = .ok (.iload 5, 2) := by decide +kernel
theorem dX11_far_77 : decode cX11_far 77 = .ok (.iload 4, 2) := by decide +kernel
theorem dX11_far_79 : decode cX11_far 79 = .ok (.invokestatic 191, 3) := by decide +kernel
theorem dX11_far_82 : decode cX11_far 82 = .ok (.lstore 6, 2) := by decide +kernel
theorem dX11_far_84 : decode cX11_far 84 = .ok (.lload 6, 2) := by decide +kernel
theorem dX11_far_86 : decode cX11_far 86 = .ok (.lconst 1, 1) := by decide +kernel
theorem dX11_far_87 : decode cX11_far 87 = .ok (.iload 4, 2) := by decide +kernel
theorem dX11_far_89 : decode cX11_far 89 = .ok (.lshl, 1) := by decide +kernel
theorem dX11_far_90 : decode cX11_far 90 = .ok (.iload_n 3, 1) := by decide +kernel
theorem dX11_far_91 : decode cX11_far 91 = .ok (.invokestatic 165, 3) := by decide +kernel
theorem dX11_far_94 : decode cX11_far 94 = .ok (.lreturn, 1) := by decide +kernel
set_option maxRecDepth 20000 in
theorem ggX11_need_X11_isPercent : GoodIn wsX11_need wsX11_isPercent := goodIn_r _ [5, 6, 7, 4, 8] (by decide +kernel) (by decide +kernel)
set_option maxRecDepth 20000 in
theorem gX11_need_X11_isPercent : GoodIn wsX11_need (va_wsS RX11 169 yX11_isPercent wsX11_isPercent) := goodIn_app (goodIn_of _ (by decide +kernel)) ggX11_need_X11_isPercent
set_option maxRecDepth 20000 in
theorem ggX11_need_X11_power : GoodIn wsX11_need wsX11_power := goodIn_r _ [11] (by decide +kernel) (by decide +kernel)
set_option maxRecDepth 20000 in
theorem gX11_need_X11_power : GoodIn wsX11_need (va_wsS RX11 195 yX11_power wsX11_power) := goodIn_app (goodIn_of _ (by decide +kernel)) ggX11_need_X11_power
set_option maxRecDepth 20000 in
theorem ggX11_need_X11_atLeast : GoodIn wsX11_need wsX11_atLeast := goodIn_r _ [14, 15, 16, 4, 17, 9, 10, 11] (by decide +kernel) (by decide +kernel)
set_option maxRecDepth 20000 in
theorem gX11_need_X11_atLeast : GoodIn wsX11_need (va_wsS RX11 199 yX11_atLeast wsX11_atLeast) := goodIn_app (goodIn_of _ (by decide +kernel)) ggX11_need_X11_atLeast
theorem dX11_need_0 : decode cX11_need 0 = .ok (.iload_n 1, 1) := by decide +kernel
theorem dX11_need_1 : decode cX11_need 1 = .ok (.invokestatic 169, 3) := by decide +kernel
theorem dX11_need_4 : decode cX11_need 4 = .ok (.ifCond .eq 17, 3) := by decide +kernel
theorem dX11_need_7 : decode cX11_need 7 = .ok (.iload_n 2, 1) := by decide +kernel
theorem dX11_need_8 : decode cX11_need 8 = .ok (.invokestatic 169, 3) := by decide +kernel
theorem dX11_need_11 : decode cX11_need 11 = .ok (.ifCond .eq 10, 3) := by decide +kernel
theorem dX11_need_14 : decode cX11_need 14 = .ok (.iload_n 3, 1) := by decide +kernel
theorem dX11_need_15 : decode cX11_need 15 = .ok (.invokestatic 169, 3) := by decide +kernel
theorem dX11_need_18 : decode cX11_need 18 = .ok (.ifCond .ne 6, 3) := by decide +kernel
theorem dX11_need_21 : decode cX11_need 21 = .ok (.bipush (-2), 2) := by decide +kernel
theorem dX11_need_23 : decode cX11_need 23 = .ok (.ireturn, 1) := by decide +kernel
theorem dX11_need_24 : decode cX11_need 24 = .ok (.iconst 1, 1) := by decide +kernel
theorem dX11_need_25 : decode cX11_need 25 = .ok (.istore 4, 2) := by decide +kernel
theorem dX11_need_27 : decode cX11_need 27 = .ok (.iload 4, 2) := by decide +kernel
theorem dX11_need_29 : decode cX11_need 29 = .ok (.bipush 8, 2) := by decide +kernel
theorem dX11_need_31 : decode cX11_need 31 = .ok (.if_icmp .gt 99, 3) := by decide +kernel
theorem dX11_need_34 : decode cX11_need 34 = .ok (.ldc2_w 172, 3) := by decide +kernel
theorem dX11_need_37 : decode cX11_need 37 = .ok (.iload 4, 2) := by decide +kernel
theorem dX11_need_39 : decode cX11_need 39 = .ok (.invokestatic 195, 3) := by decide +kernel
theorem dX11_need_42 : decode cX11_need 42 = .ok (.lstore 5, 2) := by decide +kernel
theorem dX11_need_44 : decode cX11_need 44 = .ok (.iconst 0, 1) := by decide +kernel
theorem dX11_need_45 : decode cX11_need 45 = .ok (.istore 7, 2) := by decide +kernel
theorem dX11_need_47 : decode cX11_need 47 = .ok (.iload 7, 2) := by decide +kernel
theorem dX11_need_49 : decode cX11_need 49 = .ok (.iload 4, 2) := by decide +kernel
theorem dX11_need_51 : decode cX11_need 51 = .ok (.if_icmp .gt 73, 3) := by decide +kernel
theorem dX11_need_54 : decode cX11_need 54 = .ok (.ldc2_w 172, 3) := by decide +kernel
theorem dX11_need_57 : decode cX11_need 57 = .ok (.iload 4, 2) := by decide +kernel
theorem dX11_need_59 : decode cX11_need 59 = .ok (.iload 7, 2) := by decide +kernel
theorem dX11_need_61 : decode cX11_need 61 = .ok (.iload_n 1, 1) := by decide +kernel
theorem dX11_need_62 : decode cX11_need 62 = .ok (.invokestatic 199, 3) := by decide +kernel
theorem dX11_need_65 : decode cX11_need 65 = .ok (.lmul, 1) := by decide +kernel
theorem dX11_need_66 : decode cX11_need 66 = .ok (.iload_n 2, 1) := by decide +kernel
theorem dX11_need_67 : decode cX11_need 67 = .ok (.i2l, 1) := by decide +kernel
theorem dX11_need_68 : decode cX11_need 68 = .ok (.lload 5, 2) := by decide +kernel
theorem dX11_need_70 : decode cX11_need 70 = .ok (.lmul, 1) := by decide +kernel
theorem dX11_need_71 : decode cX11_need 71 = .ok (.lcmp, 1) := by decide +kernel
theorem dX11_need_72 : decode cX11_need 72 = .ok (.ifCond .lt 7, 3) := by decide +kernel
theorem dX11_need_75 : decode cX11_need 75 = .ok (.iconst 1, 1) := by decide +kernel
theorem dX11_need_76 : decode cX11_need 76 = .ok (.goto 4, 3) := by decide +kernel
theorem dX11_need_79 : decode cX11_need 79 = .ok (.iconst 0, 1) := by decide +kernel
theorem dX11_need_80 : decode cX11_need 80 = .ok (.istore 8, 2) := by decide +kernel
theorem dX11_need_82 : decode cX11_need 82 = .ok (.iload 8, 2) := by decide +kernel
theorem dX11_need_84 : decode cX11_need 84 = .ok (.ifCond .eq 34, 3) := by decide +kernel
theorem dX11_need_87 : decode cX11_need 87 = .ok (.ldc2_w 172, 3) := by decide +kernel
theorem dX11_need_90 : decode cX11_need 90 = .ok (.iload 4, 2) := by decide +kernel
theorem dX11_need_92 : decode cX11_need 92 = .ok (.iload 7, 2) := by decide +kernel
theorem dX11_need_94 : decode cX11_need 94 = .ok (.bipush 50, 2) := by decide +kernel
theorem dX11_need_96 : decode cX11_need 96 = .ok (.invokestatic 199, 3) := by decide +kernel
theorem dX11_need_99 : decode cX11_need 99 = .ok (.lmul, 1) := by decide +kernel
theorem dX11_need_100 : decode cX11_need 100 = .ok (.iload_n 3, 1) := by decide +kernel
theorem dX11_need_101 : decode cX11_need 101 = .ok (.i2l, 1) := by decide +kernel
theorem dX11_need_102 : decode cX11_need 102 = .ok (.lload 5, 2) := by decide +kernel
theorem dX11_need_104 : decode cX11_need 104 = .ok (.lmul, 1) := by decide +kernel
theorem dX11_need_105 : decode cX11_need 105 = .ok (.lcmp, 1) := by decide +kernel
theorem dX11_need_106 : decode cX11_need 106 = .ok (.ifCond .gt 12, 3) := by decide +kernel
theorem dX11_need_109 : decode cX11_need 109 = .ok (.bipush 10, 2) := by decide +kernel
theorem dX11_need_111 : decode cX11_need 111 = .ok (.iload 4, 2) := by decide +kernel
theorem dX11_need_113 : decode cX11_need 113 = .ok (.imul, 1) := by decide +kernel
theorem dX11_need_114 : decode cX11_need 114 = .ok (.iload 7, 2) := by decide +kernel
theorem dX11_need_116 : decode cX11_need 116 = .ok (.iadd, 1) := by decide +kernel
theorem dX11_need_117 : decode cX11_need 117 = .ok (.ireturn, 1) := by decide +kernel
theorem dX11_need_118 : decode cX11_need 118 = .ok (.iinc 7 1, 3) := by decide +kernel
theorem dX11_need_121 : decode cX11_need 121 = .ok (.goto (-74), 3) := by decide +kernel
theorem dX11_need_124 : decode cX11_need 124 = .ok (.iinc 4 1, 3) := by decide +kernel
theorem dX11_need_127 : decode cX11_need 127 = .ok (.goto (-100), 3) := by decide +kernel
theorem dX11_need_130 : decode cX11_need 130 = .ok (.bipush (-5), 2) := by decide +kernel
theorem dX11_need_132 : decode cX11_need 132 = .ok (.ireturn, 1) := by decide +kernel
set_option maxRecDepth 20000 in
theorem ggX11_row_X11_isWithin : GoodIn wsX11_row wsX11_isWithin := goodIn_r _ [5] (by decide +kernel) (by decide +kernel)
set_option maxRecDepth 20000 in
theorem gX11_row_X11_isWithin : GoodIn wsX11_row (va_wsS RX11 42 yX11_isWithin wsX11_isWithin) := goodIn_app (goodIn_of _ (by decide +kernel)) ggX11_row_X11_isWithin
theorem dX11_row_0 : decode cX11_row 0 = .ok (.iload_n 1, 1) := by decide +kernel
theorem dX11_row_1 : decode cX11_row 1 = .ok (.iconst (-1), 1) := by decide +kernel
theorem dX11_row_2 : decode cX11_row 2 = .ok (.iconst 1, 1) := by decide +kernel
theorem dX11_row_3 : decode cX11_row 3 = .ok (.invokestatic 42, 3) := by decide +kernel
theorem dX11_row_6 : decode cX11_row 6 = .ok (.ifCond .ne 6, 3) := by decide +kernel
theorem dX11_row_9 : decode cX11_row 9 = .ok (.bipush (-2), 2) := by decide +kernel
theorem dX11_row_11 : decode cX11_row 11 = .ok (.ireturn, 1) := by decide +kernel
theorem dX11_row_12 : decode cX11_row 12 = .ok (.iload_n 1, 1) := by decide +kernel
theorem dX11_row_13 : decode cX11_row 13 = .ok (.iconst (-1), 1) := by decide +kernel
theorem dX11_row_14 : decode cX11_row 14 = .ok (.if_icmp .ne 13, 3) := by decide +kernel
theorem dX11_row_17 : decode cX11_row 17 = .ok (.aload_n 0, 1) := by decide +kernel
theorem dX11_row_18 : decode cX11_row 18 = .ok (.getfield 12, 3) := by decide +kernel
theorem dX11_row_21 : decode cX11_row 21 = .ok (.iconst 0, 1) := by decide +kernel
theorem dX11_row_22 : decode cX11_row 22 = .ok (.putfield 202, 3) := by decide +kernel
theorem dX11_row_25 : decode cX11_row 25 = .ok (.iconst 0, 1) := by decide +kernel
theorem dX11_row_26 : decode cX11_row 26 = .ok (.ireturn, 1) := by decide +kernel
theorem dX11_row_27 : decode cX11_row 27 = .ok (.aload_n 0, 1) := by decide +kernel
theorem dX11_row_28 : decode cX11_row 28 = .ok (.getfield 12, 3) := by decide +kernel
theorem dX11_row_31 : decode cX11_row 31 = .ok (.getfield 202, 3) := by decide +kernel
theorem dX11_row_34 : decode cX11_row 34 = .ok (.bipush 16, 2) := by decide +kernel
theorem dX11_row_36 : decode cX11_row 36 = .ok (.if_icmp .lt 6, 3) := by decide +kernel
theorem dX11_row_39 : decode cX11_row 39 = .ok (.bipush (-4), 2) := by decide +kernel
theorem dX11_row_41 : decode cX11_row 41 = .ok (.ireturn, 1) := by decide +kernel
theorem dX11_row_42 : decode cX11_row 42 = .ok (.aload_n 0, 1) := by decide +kernel
theorem dX11_row_43 : decode cX11_row 43 = .ok (.getfield 12, 3) := by decide +kernel
theorem dX11_row_46 : decode cX11_row 46 = .ok (.getfield 205, 3) := by decide +kernel
theorem dX11_row_49 : decode cX11_row 49 = .ok (.aload_n 0, 1) := by decide +kernel
theorem dX11_row_50 : decode cX11_row 50 = .ok (.getfield 12, 3) := by decide +kernel
theorem dX11_row_53 : decode cX11_row 53 = .ok (.getfield 202, 3) := by decide +kernel
theorem dX11_row_56 : decode cX11_row 56 = .ok (.iload_n 1, 1) := by decide +kernel
theorem dX11_row_57 : decode cX11_row 57 = .ok (.iastore, 1) := by decide +kernel
theorem dX11_row_58 : decode cX11_row 58 = .ok (.aload_n 0, 1) := by decide +kernel
theorem dX11_row_59 : decode cX11_row 59 = .ok (.getfield 12, 3) := by decide +kernel
theorem dX11_row_62 : decode cX11_row 62 = .ok (.dup, 1) := by decide +kernel
theorem dX11_row_63 : decode cX11_row 63 = .ok (.getfield 202, 3) := by decide +kernel
theorem dX11_row_66 : decode cX11_row 66 = .ok (.iconst 1, 1) := by decide +kernel
theorem dX11_row_67 : decode cX11_row 67 = .ok (.iadd, 1) := by decide +kernel
theorem dX11_row_68 : decode cX11_row 68 = .ok (.putfield 202, 3) := by decide +kernel
theorem dX11_row_71 : decode cX11_row 71 = .ok (.aload_n 0, 1) := by decide +kernel
theorem dX11_row_72 : decode cX11_row 72 = .ok (.getfield 12, 3) := by decide +kernel
theorem dX11_row_75 : decode cX11_row 75 = .ok (.getfield 202, 3) := by decide +kernel
theorem dX11_row_78 : decode cX11_row 78 = .ok (.ireturn, 1) := by decide +kernel
set_option maxRecDepth 20000 in
theorem ggX11_runs_X11_stretches : GoodIn wsX11_runs wsX11_stretches := goodIn_r _ [5, 6, 15, 16, 17, 18, 19, 20, 21, 22, 23, 24, 25, 26, 27, 28, 29, 30, 31, 32, 33, 34] (by decide +kernel) (by decide +kernel)
set_option maxRecDepth 20000 in
theorem gX11_runs_X11_stretches : GoodIn wsX11_runs (wsV RX11 208 RX11 yX11_stretches wsX11_stretches) := goodIn_app (goodIn_of _ (by decide +kernel)) ggX11_runs_X11_stretches
set_option maxRecDepth 20000 in
theorem ggX11_runs_X11_longestStretch : GoodIn wsX11_runs wsX11_longestStretch := goodIn_r _ [10, 6, 11, 12, 13, 14, 15, 16, 17, 18, 19, 20, 21, 22, 23, 24, 25, 26, 27, 28, 29, 30, 31, 32, 33, 34] (by decide +kernel) (by decide +kernel)
set_option maxRecDepth 20000 in
theorem gX11_runs_X11_longestStretch : GoodIn wsX11_runs (wsV RX11 212 RX11 yX11_longestStretch wsX11_longestStretch) := goodIn_app (goodIn_of _ (by decide +kernel)) ggX11_runs_X11_longestStretch
theorem dX11_runs_0 : decode cX11_runs 0 = .ok (.iload_n 1, 1) := by decide +kernel
theorem dX11_runs_1 : decode cX11_runs 1 = .ok (.lookupswitch 37 #[(0, 27), (1, 32)], 27) := by decide +kernel
theorem dX11_runs_28 : decode cX11_runs 28 = .ok (.aload_n 0, 1) := by decide +kernel
theorem dX11_runs_29 : decode cX11_runs 29 = .ok (.invokevirtual 208, 3) := by decide +kernel
theorem dX11_runs_32 : decode cX11_runs 32 = .ok (.ireturn, 1) := by decide +kernel
theorem dX11_runs_33 : decode cX11_runs 33 = .ok (.aload_n 0, 1) := by decide +kernel
theorem dX11_runs_34 : decode cX11_runs 34 = .ok (.invokevirtual 212, 3) := by decide +kernel
theorem dX11_runs_37 : decode cX11_runs 37 = .ok (.ireturn, 1) := by decide +kernel
theorem dX11_runs_38 : decode cX11_runs 38 = .ok (.iconst (-1), 1) := by decide +kernel
theorem dX11_runs_39 : decode cX11_runs 39 = .ok (.ireturn, 1) := by decide +kernel
set_option maxRecDepth 20000 in
theorem ggX11_made_X11_isPart : GoodIn wsX11_made wsX11_isPart := goodIn_r _ [5, 6, 7, 4, 8] (by decide +kernel) (by decide +kernel)
set_option maxRecDepth 20000 in
theorem gX11_made_X11_isPart : GoodIn wsX11_made (va_wsS RX11 153 yX11_isPart wsX11_isPart) := goodIn_app (goodIn_of _ (by decide +kernel)) ggX11_made_X11_isPart
set_option maxRecDepth 20000 in
theorem ggX11_made_X11_stretches : GoodIn wsX11_made wsX11_stretches := goodIn_r _ [12, 1, 29, 30, 31, 32, 33, 34, 35, 36, 37, 38, 39, 40, 41, 42, 43, 44, 45, 46, 47, 48] (by decide +kernel) (by decide +kernel)
set_option maxRecDepth 20000 in
theorem gX11_made_X11_stretches : GoodIn wsX11_made (wsV RX11 208 RX11 yX11_stretches wsX11_stretches) := goodIn_app (goodIn_of _ (by decide +kernel)) ggX11_made_X11_stretches
set_option maxRecDepth 20000 in
theorem ggX11_made_X11_choicesBetween : GoodIn wsX11_made wsX11_choicesBetween := goodIn_r _ [15, 16, 17, 4, 18] (by decide +kernel) (by decide +kernel)
set_option maxRecDepth 20000 in
theorem gX11_made_X11_choicesBetween : GoodIn wsX11_made (va_wsS RX11 191 yX11_choicesBetween wsX11_choicesBetween) := goodIn_app (goodIn_of _ (by decide +kernel)) ggX11_made_X11_choicesBetween
set_option maxRecDepth 20000 in
theorem ggX11_made_X11_inLowest : GoodIn wsX11_made wsX11_inLowest := goodIn_r _ [21, 22, 23, 24, 25, 26, 27, 4, 28] (by decide +kernel) (by decide +kernel)
set_option maxRecDepth 20000 in
theorem gX11_made_X11_inLowest : GoodIn wsX11_made (va_wsS RX11 165 yX11_inLowest wsX11_inLowest) := goodIn_app (goodIn_of _ (by decide +kernel)) ggX11_made_X11_inLowest
theorem dX11_made_0 : decode cX11_made 0 = .ok (.iload_n 1, 1) := by decide +kernel
theorem dX11_made_1 : decode cX11_made 1 = .ok (.invokestatic 153, 3) := by decide +kernel
theorem dX11_made_4 : decode cX11_made 4 = .ok (.ifCond .ne 5, 3) := by decide +kernel
theorem dX11_made_7 : decode cX11_made 7 = .ok (.iconst (-1), 1) := by decide +kernel
theorem dX11_made_8 : decode cX11_made 8 = .ok (.ireturn, 1) := by decide +kernel
theorem dX11_made_9 : decode cX11_made 9 = .ok (.aload_n 0, 1) := by decide +kernel
theorem dX11_made_10 : decode cX11_made 10 = .ok (.getfield 12, 3) := by decide +kernel
theorem dX11_made_13 : decode cX11_made 13 = .ok (.getfield 202, 3) := by decide +kernel
theorem dX11_made_16 : decode cX11_made 16 = .ok (.ifCond .ne 5, 3) := by decide +kernel
theorem dX11_made_19 : decode cX11_made 19 = .ok (.iconst 1, 1) := by decide +kernel
theorem dX11_made_20 : decode cX11_made 20 = .ok (.ireturn, 1) := by decide +kernel
theorem dX11_made_21 : decode cX11_made 21 = .ok (.aload_n 0, 1) := by decide +kernel
theorem dX11_made_22 : decode cX11_made 22 = .ok (.getfield 12, 3) := by decide +kernel
theorem dX11_made_25 : decode cX11_made 25 = .ok (.getfield 202, 3) := by decide +kernel
theorem dX11_made_28 : decode cX11_made 28 = .ok (.iconst 1, 1) := by decide +kernel
theorem dX11_made_29 : decode cX11_made 29 = .ok (.isub, 1) := by decide +kernel
theorem dX11_made_30 : decode cX11_made 30 = .ok (.istore_n 2, 1) := by decide +kernel
theorem dX11_made_31 : decode cX11_made 31 = .ok (.iload_n 2, 1) := by decide +kernel
theorem dX11_made_32 : decode cX11_made 32 = .ok (.iconst 0, 1) := by decide +kernel
theorem dX11_made_33 : decode cX11_made 33 = .ok (.aload_n 0, 1) := by decide +kernel
theorem dX11_made_34 : decode cX11_made 34 = .ok (.invokevirtual 208, 3) := by decide +kernel
theorem dX11_made_37 : decode cX11_made 37 = .ok (.iconst 1, 1) := by decide +kernel
theorem dX11_made_38 : decode cX11_made 38 = .ok (.isub, 1) := by decide +kernel
theorem dX11_made_39 : decode cX11_made 39 = .ok (.invokestatic 191, 3) := by decide +kernel
theorem dX11_made_42 : decode cX11_made 42 = .ok (.lstore_n 3, 1) := by decide +kernel
theorem dX11_made_43 : decode cX11_made 43 = .ok (.lload_n 3, 1) := by decide +kernel
theorem dX11_made_44 : decode cX11_made 44 = .ok (.lconst 1, 1) := by decide +kernel
theorem dX11_made_45 : decode cX11_made 45 = .ok (.iload_n 2, 1) := by decide +kernel
theorem dX11_made_46 : decode cX11_made 46 = .ok (.lshl, 1) := by decide +kernel
theorem dX11_made_47 : decode cX11_made 47 = .ok (.iload_n 1, 1) := by decide +kernel
theorem dX11_made_48 : decode cX11_made 48 = .ok (.invokestatic 165, 3) := by decide +kernel
theorem dX11_made_51 : decode cX11_made 51 = .ok (.l2i, 1) := by decide +kernel
theorem dX11_made_52 : decode cX11_made 52 = .ok (.ireturn, 1) := by decide +kernel
set_option maxRecDepth 20000 in
theorem ggX11_worth_X11_lawOf : GoodIn wsX11_worth wsX11_lawOf := goodIn_r _ [10, 1, 11, 12, 9, 13, 125, 126, 127, 128, 129, 130, 131, 132, 133, 134, 135, 136, 137, 138, 139, 140, 141, 142, 143, 144] (by decide +kernel) (by decide +kernel)
set_option maxRecDepth 20000 in
theorem gX11_worth_X11_lawOf : GoodIn wsX11_worth (wsV RX11 113 RX11 yX11_lawOf wsX11_lawOf) := goodIn_app (goodIn_of _ (by decide +kernel)) ggX11_worth_X11_lawOf
set_option maxRecDepth 20000 in
theorem ggX11_worth_X11_isHand : GoodIn wsX11_worth wsX11_isHand := goodIn_r _ [17, 1, 11, 12, 9, 13, 125, 126, 127, 128, 129, 130, 131, 132, 133, 134, 135, 136, 137, 138, 139, 140, 141, 142, 143, 144] (by decide +kernel) (by decide +kernel)
set_option maxRecDepth 20000 in
theorem gX11_worth_X11_isHand : GoodIn wsX11_worth (wsV RX11 66 RX11 yX11_isHand wsX11_isHand) := goodIn_app (goodIn_of _ (by decide +kernel)) ggX11_worth_X11_isHand
set_option maxRecDepth 20000 in
theorem ggX11_worth_X11_isCoin : GoodIn wsX11_worth wsX11_isCoin := goodIn_r _ [21, 1, 11, 12, 9, 13, 125, 126, 127, 128, 129, 130, 131, 132, 133, 134, 135, 136, 137, 138, 139, 140, 141, 142, 143, 144] (by decide +kernel) (by decide +kernel)
set_option maxRecDepth 20000 in
theorem gX11_worth_X11_isCoin : GoodIn wsX11_worth (wsV RX11 80 RX11 yX11_isCoin wsX11_isCoin) := goodIn_app (goodIn_of _ (by decide +kernel)) ggX11_worth_X11_isCoin
set_option maxRecDepth 20000 in
theorem ggX11_worth_X11_isPercent : GoodIn wsX11_worth wsX11_isPercent := goodIn_r _ [24, 11, 12, 9, 13] (by decide +kernel) (by decide +kernel)
set_option maxRecDepth 20000 in
theorem gX11_worth_X11_isPercent : GoodIn wsX11_worth (va_wsS RX11 169 yX11_isPercent wsX11_isPercent) := goodIn_app (goodIn_of _ (by decide +kernel)) ggX11_worth_X11_isPercent
set_option maxRecDepth 20000 in
theorem ggX11_worth_X6_rises : GoodIn wsX11_worth wsX6_rises := goodIn_r _ [28, 29, 30, 31, 4, 32, 131, 132, 133, 134, 135, 136, 137, 138, 139, 140, 141, 142, 143, 144] (by decide +kernel) (by decide +kernel)
set_option maxRecDepth 20000 in
theorem gX11_worth_X6_rises_n162 : GoodIn wsX11_worth (wsX6_rises) := ggX11_worth_X6_rises
set_option maxRecDepth 20000 in
theorem ggX11_worth_X11_timesHeads : GoodIn wsX11_worth wsX11_timesHeads := goodIn_r _ [36, 1, 37, 31, 4, 32, 38, 39, 40, 9, 41, 42, 43, 44, 45, 46, 47, 48, 49, 50, 51, 52, 53, 54, 55, 56, 57, 58, 59, 60, 61, 62, 63, 64, 65, 66, 67, 68, 69, 70, 71, 72, 73, 74, 75, 76, 77, 78, 79, 80, 81, 82, 83, 84, 85, 86, 87, 88, 89, 90, 91, 92, 93, 94, 95, 96, 97, 98, 99, 100, 101, 102, 103, 104, 105, 106, 107, 108, 109, 110, 111, 112, 113, 114, 115, 116, 117, 118, 119, 120, 121, 122, 123, 124, 125, 126, 127, 128, 129, 130, 131, 132, 133, 134, 135, 136, 137, 138, 139, 140, 141, 142, 143, 144, 145, 146, 147, 148, 149, 150, 151, 152, 153, 154, 155, 156, 157, 158, 159, 160, 161, 162, 163, 164, 165, 166, 167, 168, 169, 170, 171, 172, 173, 174, 175, 176, 177, 178, 179, 180, 181, 182, 183, 184, 185, 186, 187] (by decide +kernel) (by decide +kernel)
set_option maxRecDepth 20000 in
theorem gX11_worth_X11_timesHeads : GoodIn wsX11_worth (wsV RX11 158 RX11 yX11_timesHeads wsX11_timesHeads) := goodIn_app (goodIn_of _ (by decide +kernel)) ggX11_worth_X11_timesHeads
theorem dX11_worth_0 : decode cX11_worth 0 = .ok (.aload_n 0, 1) := by decide +kernel
theorem dX11_worth_1 : decode cX11_worth 1 = .ok (.iload_n 1, 1) := by decide +kernel
theorem dX11_worth_2 : decode cX11_worth 2 = .ok (.invokevirtual 113, 3) := by decide +kernel
theorem dX11_worth_5 : decode cX11_worth 5 = .ok (.astore 5, 2) := by decide +kernel
theorem dX11_worth_7 : decode cX11_worth 7 = .ok (.aload 5, 2) := by decide +kernel
theorem dX11_worth_9 : decode cX11_worth 9 = .ok (.ifnull 19, 3) := by decide +kernel
theorem dX11_worth_12 : decode cX11_worth 12 = .ok (.aload_n 0, 1) := by decide +kernel
theorem dX11_worth_13 : decode cX11_worth 13 = .ok (.iload_n 2, 1) := by decide +kernel
theorem dX11_worth_14 : decode cX11_worth 14 = .ok (.invokevirtual 66, 3) := by decide +kernel
theorem dX11_worth_17 : decode cX11_worth 17 = .ok (.ifCond .eq 11, 3) := by decide +kernel
theorem dX11_worth_20 : decode cX11_worth 20 = .ok (.aload_n 0, 1) := by decide +kernel
theorem dX11_worth_21 : decode cX11_worth 21 = .ok (.iload_n 3, 1) := by decide +kernel
theorem dX11_worth_22 : decode cX11_worth 22 = .ok (.invokevirtual 80, 3) := by decide +kernel
theorem dX11_worth_25 : decode cX11_worth 25 = .ok (.ifCond .ne 7, 3) := by decide +kernel
theorem dX11_worth_28 : decode cX11_worth 28 = .ok (.sipush (-1001), 3) := by decide +kernel
theorem dX11_worth_31 : decode cX11_worth 31 = .ok (.ireturn, 1) := by decide +kernel
theorem dX11_worth_32 : decode cX11_worth 32 = .ok (.iload 4, 2) := by decide +kernel
theorem dX11_worth_34 : decode cX11_worth 34 = .ok (.invokestatic 169, 3) := by decide +kernel
theorem dX11_worth_37 : decode cX11_worth 37 = .ok (.ifCond .ne 7, 3) := by decide +kernel
theorem dX11_worth_40 : decode cX11_worth 40 = .ok (.sipush (-1002), 3) := by decide +kernel
theorem dX11_worth_43 : decode cX11_worth 43 = .ok (.ireturn, 1) := by decide +kernel
theorem dX11_worth_44 : decode cX11_worth 44 = .ok (.aload_n 0, 1) := by decide +kernel
theorem dX11_worth_45 : decode cX11_worth 45 = .ok (.getfield 12, 3) := by decide +kernel
theorem dX11_worth_48 : decode cX11_worth 48 = .ok (.iload_n 2, 1) := by decide +kernel
theorem dX11_worth_49 : decode cX11_worth 49 = .ok (.invokevirtual 162, 3) := by decide +kernel
theorem dX11_worth_52 : decode cX11_worth 52 = .ok (.istore 6, 2) := by decide +kernel
theorem dX11_worth_54 : decode cX11_worth 54 = .ok (.aload_n 0, 1) := by decide +kernel
theorem dX11_worth_55 : decode cX11_worth 55 = .ok (.aload 5, 2) := by decide +kernel
theorem dX11_worth_57 : decode cX11_worth 57 = .ok (.iload_n 2, 1) := by decide +kernel
theorem dX11_worth_58 : decode cX11_worth 58 = .ok (.iload_n 3, 1) := by decide +kernel
theorem dX11_worth_59 : decode cX11_worth 59 = .ok (.iconst 1, 1) := by decide +kernel
theorem dX11_worth_60 : decode cX11_worth 60 = .ok (.invokevirtual 158, 3) := by decide +kernel
theorem dX11_worth_63 : decode cX11_worth 63 = .ok (.istore 7, 2) := by decide +kernel
theorem dX11_worth_65 : decode cX11_worth 65 = .ok (.iconst 2, 1) := by decide +kernel
theorem dX11_worth_66 : decode cX11_worth 66 = .ok (.iload 7, 2) := by decide +kernel
theorem dX11_worth_68 : decode cX11_worth 68 = .ok (.imul, 1) := by decide +kernel
theorem dX11_worth_69 : decode cX11_worth 69 = .ok (.iload 6, 2) := by decide +kernel
theorem dX11_worth_71 : decode cX11_worth 71 = .ok (.isub, 1) := by decide +kernel
theorem dX11_worth_72 : decode cX11_worth 72 = .ok (.invokestatic 215, 3) := by decide +kernel
theorem dX11_worth_75 : decode cX11_worth 75 = .ok (.istore 8, 2) := by decide +kernel
theorem dX11_worth_77 : decode cX11_worth 77 = .ok (.bipush 10, 2) := by decide +kernel
theorem dX11_worth_79 : decode cX11_worth 79 = .ok (.iload 8, 2) := by decide +kernel
theorem dX11_worth_81 : decode cX11_worth 81 = .ok (.imul, 1) := by decide +kernel
theorem dX11_worth_82 : decode cX11_worth 82 = .ok (.bipush 100, 2) := by decide +kernel
theorem dX11_worth_84 : decode cX11_worth 84 = .ok (.iconst 2, 1) := by decide +kernel
theorem dX11_worth_85 : decode cX11_worth 85 = .ok (.iload 4, 2) := by decide +kernel
theorem dX11_worth_87 : decode cX11_worth 87 = .ok (.imul, 1) := by decide +kernel
theorem dX11_worth_88 : decode cX11_worth 88 = .ok (.isub, 1) := by decide +kernel
theorem dX11_worth_89 : decode cX11_worth 89 = .ok (.imul, 1) := by decide +kernel
theorem dX11_worth_90 : decode cX11_worth 90 = .ok (.iload 6, 2) := by decide +kernel
theorem dX11_worth_92 : decode cX11_worth 92 = .ok (.idiv, 1) := by decide +kernel
theorem dX11_worth_93 : decode cX11_worth 93 = .ok (.ireturn, 1) := by decide +kernel
set_option maxRecDepth 20000 in
theorem ggX11_fair_X11_isPart : GoodIn wsX11_fair wsX11_isPart := goodIn_r _ [5, 6, 7, 4, 8] (by decide +kernel) (by decide +kernel)
set_option maxRecDepth 20000 in
theorem gX11_fair_X11_isPart : GoodIn wsX11_fair (va_wsS RX11 153 yX11_isPart wsX11_isPart) := goodIn_app (goodIn_of _ (by decide +kernel)) ggX11_fair_X11_isPart
set_option maxRecDepth 20000 in
theorem ggX11_fair_X11_isWithin : GoodIn wsX11_fair wsX11_isWithin := goodIn_r _ [8] (by decide +kernel) (by decide +kernel)
set_option maxRecDepth 20000 in
theorem gX11_fair_X11_isWithin : GoodIn wsX11_fair (va_wsS RX11 42 yX11_isWithin wsX11_isWithin) := goodIn_app (goodIn_of _ (by decide +kernel)) ggX11_fair_X11_isWithin
set_option maxRecDepth 20000 in
theorem ggX11_fair_X11_inLowest : GoodIn wsX11_fair wsX11_inLowest := goodIn_r _ [11, 12, 13, 14, 15, 16, 17, 4, 18] (by decide +kernel) (by decide +kernel)
set_option maxRecDepth 20000 in
theorem gX11_fair_X11_inLowest : GoodIn wsX11_fair (va_wsS RX11 165 yX11_inLowest wsX11_inLowest) := goodIn_app (goodIn_of _ (by decide +kernel)) ggX11_fair_X11_inLowest
theorem dX11_fair_0 : decode cX11_fair 0 = .ok (.iload_n 2, 1) := by decide +kernel
theorem dX11_fair_1 : decode cX11_fair 1 = .ok (.invokestatic 153, 3) := by decide +kernel
theorem dX11_fair_4 : decode cX11_fair 4 = .ok (.ifCond .ne 5, 3) := by decide +kernel
theorem dX11_fair_7 : decode cX11_fair 7 = .ok (.iconst (-1), 1) := by decide +kernel
theorem dX11_fair_8 : decode cX11_fair 8 = .ok (.ireturn, 1) := by decide +kernel
theorem dX11_fair_9 : decode cX11_fair 9 = .ok (.iload_n 1, 1) := by decide +kernel
theorem dX11_fair_10 : decode cX11_fair 10 = .ok (.iconst 1, 1) := by decide +kernel
theorem dX11_fair_11 : decode cX11_fair 11 = .ok (.bipush 99, 2) := by decide +kernel
theorem dX11_fair_13 : decode cX11_fair 13 = .ok (.invokestatic 42, 3) := by decide +kernel
theorem dX11_fair_16 : decode cX11_fair 16 = .ok (.ifCond .ne 6, 3) := by decide +kernel
theorem dX11_fair_19 : decode cX11_fair 19 = .ok (.bipush (-2), 2) := by decide +kernel
theorem dX11_fair_21 : decode cX11_fair 21 = .ok (.ireturn, 1) := by decide +kernel
theorem dX11_fair_22 : decode cX11_fair 22 = .ok (.ldc2_w 218, 3) := by decide +kernel
theorem dX11_fair_25 : decode cX11_fair 25 = .ok (.iload_n 1, 1) := by decide +kernel
theorem dX11_fair_26 : decode cX11_fair 26 = .ok (.bipush 100, 2) := by decide +kernel
theorem dX11_fair_28 : decode cX11_fair 28 = .ok (.iload_n 1, 1) := by decide +kernel
theorem dX11_fair_29 : decode cX11_fair 29 = .ok (.isub, 1) := by decide +kernel
theorem dX11_fair_30 : decode cX11_fair 30 = .ok (.imul, 1) := by decide +kernel
theorem dX11_fair_31 : decode cX11_fair 31 = .ok (.i2l, 1) := by decide +kernel
theorem dX11_fair_32 : decode cX11_fair 32 = .ok (.iload_n 2, 1) := by decide +kernel
theorem dX11_fair_33 : decode cX11_fair 33 = .ok (.invokestatic 165, 3) := by decide +kernel
theorem dX11_fair_36 : decode cX11_fair 36 = .ok (.l2i, 1) := by decide +kernel
theorem dX11_fair_37 : decode cX11_fair 37 = .ok (.ireturn, 1) := by decide +kernel
set_option maxRecDepth 20000 in
theorem ggX11_learns_X11_isHand : GoodIn wsX11_learns wsX11_isHand := goodIn_r _ [13, 1, 14, 15, 12, 16, 27, 28, 29, 30, 31, 32, 33, 34, 35, 36, 37, 38, 39, 40, 41, 42, 43, 44, 45, 46] (by decide +kernel) (by decide +kernel)
set_option maxRecDepth 20000 in
theorem gX11_learns_X11_isHand : GoodIn wsX11_learns (wsV RX11 66 RX11 yX11_isHand wsX11_isHand) := goodIn_app (goodIn_of _ (by decide +kernel)) ggX11_learns_X11_isHand
set_option maxRecDepth 20000 in
theorem ggX11_learns_X11_isWithin : GoodIn wsX11_learns wsX11_isWithin := goodIn_r _ [16] (by decide +kernel) (by decide +kernel)
set_option maxRecDepth 20000 in
theorem gX11_learns_X11_isWithin : GoodIn wsX11_learns (va_wsS RX11 42 yX11_isWithin wsX11_isWithin) := goodIn_app (goodIn_of _ (by decide +kernel)) ggX11_learns_X11_isWithin
set_option maxRecDepth 20000 in
theorem ggX11_learns_X6_allThrown : GoodIn wsX11_learns wsX6_allThrown := goodIn_r _ [20, 21, 22, 23, 24, 18, 25, 26, 33, 34, 35, 36, 37, 38, 39, 40, 41, 42, 43, 44, 45, 46] (by decide +kernel) (by decide +kernel)
set_option maxRecDepth 20000 in
theorem gX11_learns_X6_allThrown_n74 : GoodIn wsX11_learns (wsX6_allThrown) := ggX11_learns_X6_allThrown
theorem dX11_learns_0 : decode cX11_learns 0 = .ok (.aload_n 0, 1) := by decide +kernel
theorem dX11_learns_1 : decode cX11_learns 1 = .ok (.iload_n 1, 1) := by decide +kernel
theorem dX11_learns_2 : decode cX11_learns 2 = .ok (.invokevirtual 66, 3) := by decide +kernel
theorem dX11_learns_5 : decode cX11_learns 5 = .ok (.ifCond .eq 13, 3) := by decide +kernel
theorem dX11_learns_8 : decode cX11_learns 8 = .ok (.iload 4, 2) := by decide +kernel
theorem dX11_learns_10 : decode cX11_learns 10 = .ok (.iconst 0, 1) := by decide +kernel
theorem dX11_learns_11 : decode cX11_learns 11 = .ok (.iconst 1, 1) := by decide +kernel
theorem dX11_learns_12 : decode cX11_learns 12 = .ok (.invokestatic 42, 3) := by decide +kernel
theorem dX11_learns_15 : decode cX11_learns 15 = .ok (.ifCond .ne 5, 3) := by decide +kernel
theorem dX11_learns_18 : decode cX11_learns 18 = .ok (.iconst (-1), 1) := by decide +kernel
theorem dX11_learns_19 : decode cX11_learns 19 = .ok (.ireturn, 1) := by decide +kernel
theorem dX11_learns_20 : decode cX11_learns 20 = .ok (.iload_n 2, 1) := by decide +kernel
theorem dX11_learns_21 : decode cX11_learns 21 = .ok (.iconst 0, 1) := by decide +kernel
theorem dX11_learns_22 : decode cX11_learns 22 = .ok (.bipush 9, 2) := by decide +kernel
theorem dX11_learns_24 : decode cX11_learns 24 = .ok (.invokestatic 42, 3) := by decide +kernel
theorem dX11_learns_27 : decode cX11_learns 27 = .ok (.ifCond .eq 13, 3) := by decide +kernel
theorem dX11_learns_30 : decode cX11_learns 30 = .ok (.iload_n 3, 1) := by decide +kernel
theorem dX11_learns_31 : decode cX11_learns 31 = .ok (.iconst 0, 1) := by decide +kernel
theorem dX11_learns_32 : decode cX11_learns 32 = .ok (.bipush 9, 2) := by decide +kernel
theorem dX11_learns_34 : decode cX11_learns 34 = .ok (.invokestatic 42, 3) := by decide +kernel
theorem dX11_learns_37 : decode cX11_learns 37 = .ok (.ifCond .ne 6, 3) := by decide +kernel
theorem dX11_learns_40 : decode cX11_learns 40 = .ok (.bipush (-2), 2) := by decide +kernel
theorem dX11_learns_42 : decode cX11_learns 42 = .ok (.ireturn, 1) := by decide +kernel
theorem dX11_learns_43 : decode cX11_learns 43 = .ok (.aload_n 0, 1) := by decide +kernel
theorem dX11_learns_44 : decode cX11_learns 44 = .ok (.getfield 12, 3) := by decide +kernel
theorem dX11_learns_47 : decode cX11_learns 47 = .ok (.iload_n 1, 1) := by decide +kernel
theorem dX11_learns_48 : decode cX11_learns 48 = .ok (.invokevirtual 74, 3) := by decide +kernel
theorem dX11_learns_51 : decode cX11_learns 51 = .ok (.bipush 100, 2) := by decide +kernel
theorem dX11_learns_53 : decode cX11_learns 53 = .ok (.idiv, 1) := by decide +kernel
theorem dX11_learns_54 : decode cX11_learns 54 = .ok (.istore 5, 2) := by decide +kernel
theorem dX11_learns_56 : decode cX11_learns 56 = .ok (.iload 4, 2) := by decide +kernel
theorem dX11_learns_58 : decode cX11_learns 58 = .ok (.ifCond .ne 23, 3) := by decide +kernel
theorem dX11_learns_61 : decode cX11_learns 61 = .ok (.bipush 30, 2) := by decide +kernel
theorem dX11_learns_63 : decode cX11_learns 63 = .ok (.aload_n 0, 1) := by decide +kernel
theorem dX11_learns_64 : decode cX11_learns 64 = .ok (.getfield 12, 3) := by decide +kernel
theorem dX11_learns_67 : decode cX11_learns 67 = .ok (.getfield 60, 3) := by decide +kernel
theorem dX11_learns_70 : decode cX11_learns 70 = .ok (.iload_n 1, 1) := by decide +kernel
theorem dX11_learns_71 : decode cX11_learns 71 = .ok (.iaload, 1) := by decide +kernel
theorem dX11_learns_72 : decode cX11_learns 72 = .ok (.iload 5, 2) := by decide +kernel
theorem dX11_learns_74 : decode cX11_learns 74 = .ok (.iload_n 2, 1) := by decide +kernel
theorem dX11_learns_75 : decode cX11_learns 75 = .ok (.imul, 1) := by decide +kernel
theorem dX11_learns_76 : decode cX11_learns 76 = .ok (.iadd, 1) := by decide +kernel
theorem dX11_learns_77 : decode cX11_learns 77 = .ok (.invokestatic 178, 3) := by decide +kernel
theorem dX11_learns_80 : decode cX11_learns 80 = .ok (.ireturn, 1) := by decide +kernel
theorem dX11_learns_81 : decode cX11_learns 81 = .ok (.iconst 0, 1) := by decide +kernel
theorem dX11_learns_82 : decode cX11_learns 82 = .ok (.aload_n 0, 1) := by decide +kernel
theorem dX11_learns_83 : decode cX11_learns 83 = .ok (.getfield 12, 3) := by decide +kernel
theorem dX11_learns_86 : decode cX11_learns 86 = .ok (.getfield 63, 3) := by decide +kernel
theorem dX11_learns_89 : decode cX11_learns 89 = .ok (.iload_n 1, 1) := by decide +kernel
theorem dX11_learns_90 : decode cX11_learns 90 = .ok (.iaload, 1) := by decide +kernel
theorem dX11_learns_91 : decode cX11_learns 91 = .ok (.iload 5, 2) := by decide +kernel
theorem dX11_learns_93 : decode cX11_learns 93 = .ok (.iload_n 3, 1) := by decide +kernel
theorem dX11_learns_94 : decode cX11_learns 94 = .ok (.imul, 1) := by decide +kernel
theorem dX11_learns_95 : decode cX11_learns 95 = .ok (.isub, 1) := by decide +kernel
theorem dX11_learns_96 : decode cX11_learns 96 = .ok (.invokestatic 184, 3) := by decide +kernel
theorem dX11_learns_99 : decode cX11_learns 99 = .ok (.ireturn, 1) := by decide +kernel
set_option maxRecDepth 20000 in
theorem ggX11_act_X11_lawOf : GoodIn wsX11_act wsX11_lawOf := goodIn_r _ [6, 7, 8, 9, 5, 10, 99, 100, 101, 102, 103, 104, 107, 108, 109, 110, 111, 112, 113, 114, 115, 116, 117, 118, 119, 120] (by decide +kernel) (by decide +kernel)
set_option maxRecDepth 20000 in
theorem gX11_act_X11_lawOf : GoodIn wsX11_act (wsV RX11 113 RX11 yX11_lawOf wsX11_lawOf) := goodIn_app (goodIn_of _ (by decide +kernel)) ggX11_act_X11_lawOf
set_option maxRecDepth 20000 in
theorem ggX11_act_X7_turns : GoodIn wsX11_act wsX7_turns := goodIn_r _ [16, 17, 18, 19, 20, 21, 22, 23, 121, 122, 123, 124, 125, 126, 127, 128, 129, 130, 131, 132, 133, 134, 135, 136, 137, 138, 139, 140, 141, 142, 143, 144, 145, 146, 147, 148, 149, 150, 151, 152, 153, 154, 155, 105, 106] (by decide +kernel) (by decide +kernel)
set_option maxRecDepth 20000 in
theorem gX11_act_X7_turns_u223X0 : GoodIn wsX11_act (va_wsU RX11 223 RX0 "HeadsByHair$Throw" ⟨"HeadsByHair$Throw", "turns", "(ILHeadsByHair$Trace;)I"⟩ yX7_turns wsX7_turns) := goodIn_app (goodIn_of _ (by decide +kernel)) ggX11_act_X7_turns
set_option maxRecDepth 20000 in
theorem gX11_act_X7_turns_u223X1 : GoodIn wsX11_act (va_wsU RX11 223 RX1 "HeadsByHair$Throw" ⟨"HeadsByHair$Throw", "turns", "(ILHeadsByHair$Trace;)I"⟩ yX7_turns wsX7_turns) := goodIn_app (goodIn_of _ (by decide +kernel)) ggX11_act_X7_turns
set_option maxRecDepth 20000 in
theorem ggX11_act_X4_turns : GoodIn wsX11_act wsX4_turns := goodIn_r _ [29, 30, 31, 18, 19, 20, 21, 22, 23, 121, 122, 123, 124, 125, 126, 127, 128, 129, 130, 131, 132, 133, 134, 135, 136, 137, 138, 139, 140, 141, 142, 143, 144, 145, 146, 147, 148, 149, 150, 151, 152, 153, 154, 155, 105, 106] (by decide +kernel) (by decide +kernel)
set_option maxRecDepth 20000 in
theorem gX11_act_X4_turns_u223X4 : GoodIn wsX11_act (va_wsO RX11 223 RX4 "HeadsByHair$Throw" ⟨"HeadsByHair$Throw", "turns", "(ILHeadsByHair$Trace;)I"⟩ yX4_turns wsX4_turns) := goodIn_app (goodIn_of _ (by decide +kernel)) ggX11_act_X4_turns
set_option maxRecDepth 20000 in
theorem gX11_act_X7_turns_u223X5 : GoodIn wsX11_act (va_wsU RX11 223 RX5 "HeadsByHair$Throw" ⟨"HeadsByHair$Throw", "turns", "(ILHeadsByHair$Trace;)I"⟩ yX7_turns wsX7_turns) := goodIn_app (goodIn_of _ (by decide +kernel)) ggX11_act_X7_turns
set_option maxRecDepth 20000 in
theorem gX11_act_X7_turns : GoodIn wsX11_act (wsV RX11 223 RX7 yX7_turns wsX7_turns) := goodIn_app (goodIn_of _ (by decide +kernel)) ggX11_act_X7_turns
set_option maxRecDepth 20000 in
theorem ggX11_act_X9_turns : GoodIn wsX11_act wsX9_turns := goodIn_r _ [38, 18, 19, 20, 21, 22, 23, 39, 12, 40, 14, 15, 16, 17, 105, 106, 121, 122, 123, 124, 125, 126, 127, 128, 129, 130, 131, 132, 133, 134, 135, 136, 137, 138, 139, 140, 141, 142, 143, 144, 145, 146, 147, 148, 149, 150, 151, 152, 153, 154, 155] (by decide +kernel) (by decide +kernel)
set_option maxRecDepth 20000 in
theorem gX11_act_X9_turns_u223X9 : GoodIn wsX11_act (va_wsO RX11 223 RX9 "HeadsByHair$Throw" ⟨"HeadsByHair$Throw", "turns", "(ILHeadsByHair$Trace;)I"⟩ yX9_turns wsX9_turns) := goodIn_app (goodIn_of _ (by decide +kernel)) ggX11_act_X9_turns
set_option maxRecDepth 20000 in
theorem gX11_act_X9_turns_u223X10 : GoodIn wsX11_act (va_wsO RX11 223 RX10 "HeadsByHair$Throw" ⟨"HeadsByHair$Throw", "turns", "(ILHeadsByHair$Trace;)I"⟩ yX9_turns wsX9_turns) := goodIn_app (goodIn_of _ (by decide +kernel)) ggX11_act_X9_turns
set_option maxRecDepth 20000 in
theorem ggX11_act_X0_lands : GoodIn wsX11_act wsX0_lands := goodIn_r _ [48, 18, 19, 20, 21, 22, 23, 49, 43, 50, 51, 15, 52, 53, 54, 12, 13, 14, 16, 17, 24, 25, 26, 27, 28, 29, 30, 31, 32, 55, 34, 35, 36, 37, 38, 39, 40, 41, 105, 106, 121, 122, 123, 124, 125, 126, 127, 128, 129, 130, 131, 132, 133, 134, 135, 136, 137, 138, 139, 140, 141, 142, 143, 144, 145, 146, 147, 148, 149, 150, 151, 152, 153, 154, 155] (by decide +kernel) (by decide +kernel)
set_option maxRecDepth 20000 in
theorem gX11_act_X0_lands_u227X0 : GoodIn wsX11_act (va_wsO RX11 227 RX0 "HeadsByHair$Throw" ⟨"HeadsByHair$Throw", "lands", "(ILHeadsByHair$Trace;)I"⟩ yX0_lands wsX0_lands) := goodIn_app (goodIn_of _ (by decide +kernel)) ggX11_act_X0_lands
set_option maxRecDepth 20000 in
theorem ggX11_act_X1_lands : GoodIn wsX11_act wsX1_lands := goodIn_r _ [59, 60, 61, 18, 19, 20, 21, 22, 23, 62, 63, 64, 46, 47, 48, 49, 43, 50, 51, 15, 52, 53, 54, 12, 13, 14, 16, 17, 24, 25, 26, 27, 28, 29, 30, 31, 32, 55, 34, 35, 36, 37, 38, 39, 40, 41, 121, 122, 123, 124, 125, 126, 127, 128, 129, 130, 131, 132, 133, 134, 135, 136, 137, 138, 139, 140, 141, 142, 143, 144, 145, 146, 147, 148, 149, 150, 151, 152, 153, 154, 155, 105, 106] (by decide +kernel) (by decide +kernel)
set_option maxRecDepth 20000 in
theorem gX11_act_X1_lands_u227X1 : GoodIn wsX11_act (va_wsO RX11 227 RX1 "HeadsByHair$Throw" ⟨"HeadsByHair$Throw", "lands", "(ILHeadsByHair$Trace;)I"⟩ yX1_lands wsX1_lands) := goodIn_app (goodIn_of _ (by decide +kernel)) ggX11_act_X1_lands
set_option maxRecDepth 20000 in
theorem ggX11_act_X7_lands : GoodIn wsX11_act wsX7_lands := goodIn_r _ [52, 53, 18, 19, 20, 21, 22, 23, 54, 12, 13, 14, 15, 16, 17, 24, 25, 26, 27, 28, 29, 30, 31, 32, 55, 34, 35, 36, 37, 38, 39, 40, 41, 121, 122, 123, 124, 125, 126, 127, 128, 129, 130, 131, 132, 133, 134, 135, 136, 137, 138, 139, 140, 141, 142, 143, 144, 145, 146, 147, 148, 149, 150, 151, 152, 153, 154, 155, 105, 106] (by decide +kernel) (by decide +kernel)
set_option maxRecDepth 20000 in
theorem gX11_act_X7_lands_u227X4 : GoodIn wsX11_act (va_wsU RX11 227 RX4 "HeadsByHair$Throw" ⟨"HeadsByHair$Throw", "lands", "(ILHeadsByHair$Trace;)I"⟩ yX7_lands wsX7_lands) := goodIn_app (goodIn_of _ (by decide +kernel)) ggX11_act_X7_lands
set_option maxRecDepth 20000 in
theorem gX11_act_X7_lands_u227X5 : GoodIn wsX11_act (va_wsU RX11 227 RX5 "HeadsByHair$Throw" ⟨"HeadsByHair$Throw", "lands", "(ILHeadsByHair$Trace;)I"⟩ yX7_lands wsX7_lands) := goodIn_app (goodIn_of _ (by decide +kernel)) ggX11_act_X7_lands
set_option maxRecDepth 20000 in
theorem gX11_act_X7_lands : GoodIn wsX11_act (wsV RX11 227 RX7 yX7_lands wsX7_lands) := goodIn_app (goodIn_of _ (by decide +kernel)) ggX11_act_X7_lands
set_option maxRecDepth 20000 in
theorem gX11_act_X7_lands_u227X9 : GoodIn wsX11_act (va_wsU RX11 227 RX9 "HeadsByHair$Throw" ⟨"HeadsByHair$Throw", "lands", "(ILHeadsByHair$Trace;)I"⟩ yX7_lands wsX7_lands) := goodIn_app (goodIn_of _ (by decide +kernel)) ggX11_act_X7_lands
set_option maxRecDepth 20000 in
theorem gX11_act_X7_lands_u227X10 : GoodIn wsX11_act (va_wsU RX11 227 RX10 "HeadsByHair$Throw" ⟨"HeadsByHair$Throw", "lands", "(ILHeadsByHair$Trace;)I"⟩ yX7_lands wsX7_lands) := goodIn_app (goodIn_of _ (by decide +kernel)) ggX11_act_X7_lands
set_option maxRecDepth 20000 in
theorem ggX11_act_X7_leans : GoodIn wsX11_act wsX7_leans := goodIn_r _ [75, 18, 19, 20, 21, 22, 23, 76, 43, 44, 45, 46, 47, 48, 49, 50, 51, 15, 52, 53, 54, 12, 13, 14, 16, 17, 24, 25, 26, 27, 28, 29, 30, 31, 32, 55, 34, 35, 36, 37, 38, 39, 40, 41, 56, 57, 58, 59, 60, 61, 62, 63, 64, 65, 66, 77, 68, 69, 70, 105, 106, 121, 122, 123, 124, 125, 126, 127, 128, 129, 130, 131, 132, 133, 134, 135, 136, 137, 138, 139, 140, 141, 142, 143, 144, 145, 146, 147, 148, 149, 150, 151, 152, 153, 154, 155] (by decide +kernel) (by decide +kernel)
set_option maxRecDepth 20000 in
theorem gX11_act_X7_leans_u230X0 : GoodIn wsX11_act (va_wsU RX11 230 RX0 "HeadsByHair$Throw" ⟨"HeadsByHair$Throw", "leans", "(ILHeadsByHair$Trace;)I"⟩ yX7_leans wsX7_leans) := goodIn_app (goodIn_of _ (by decide +kernel)) ggX11_act_X7_leans
set_option maxRecDepth 20000 in
theorem gX11_act_X7_leans_u230X1 : GoodIn wsX11_act (va_wsU RX11 230 RX1 "HeadsByHair$Throw" ⟨"HeadsByHair$Throw", "leans", "(ILHeadsByHair$Trace;)I"⟩ yX7_leans wsX7_leans) := goodIn_app (goodIn_of _ (by decide +kernel)) ggX11_act_X7_leans
set_option maxRecDepth 20000 in
theorem ggX11_act_X10_leans : GoodIn wsX11_act wsX10_leans := goodIn_r _ [83, 18, 19, 20, 21, 22, 23, 84, 85, 86, 87, 27, 28, 29, 30, 31, 38, 88, 36, 37, 39, 12, 40, 14, 15, 16, 17, 105, 106, 121, 122, 123, 124, 125, 126, 127, 128, 129, 130, 131, 132, 133, 134, 135, 136, 137, 138, 139, 140, 141, 142, 143, 144, 145, 146, 147, 148, 149, 150, 151, 152, 153, 154, 155] (by decide +kernel) (by decide +kernel)
set_option maxRecDepth 20000 in
theorem gX11_act_X10_leans_u230X4 : GoodIn wsX11_act (va_wsO RX11 230 RX4 "HeadsByHair$Throw" ⟨"HeadsByHair$Throw", "leans", "(ILHeadsByHair$Trace;)I"⟩ yX10_leans wsX10_leans) := goodIn_app (goodIn_of _ (by decide +kernel)) ggX11_act_X10_leans
set_option maxRecDepth 20000 in
theorem ggX11_act_X5_leans : GoodIn wsX11_act wsX5_leans := goodIn_r _ [92, 18, 19, 20, 21, 22, 23, 93, 72, 94, 74, 15, 75, 76, 43, 44, 45, 46, 47, 48, 49, 50, 51, 52, 53, 54, 12, 13, 14, 16, 17, 24, 25, 26, 27, 28, 29, 30, 31, 32, 55, 34, 35, 36, 37, 38, 39, 40, 41, 56, 57, 58, 59, 60, 61, 62, 63, 64, 65, 66, 77, 68, 69, 70, 105, 106, 121, 122, 123, 124, 125, 126, 127, 128, 129, 130, 131, 132, 133, 134, 135, 136, 137, 138, 139, 140, 141, 142, 143, 144, 145, 146, 147, 148, 149, 150, 151, 152, 153, 154, 155] (by decide +kernel) (by decide +kernel)
set_option maxRecDepth 20000 in
theorem gX11_act_X5_leans_u230X5 : GoodIn wsX11_act (va_wsO RX11 230 RX5 "HeadsByHair$Throw" ⟨"HeadsByHair$Throw", "leans", "(ILHeadsByHair$Trace;)I"⟩ yX5_leans wsX5_leans) := goodIn_app (goodIn_of _ (by decide +kernel)) ggX11_act_X5_leans
set_option maxRecDepth 20000 in
theorem gX11_act_X7_leans : GoodIn wsX11_act (wsV RX11 230 RX7 yX7_leans wsX7_leans) := goodIn_app (goodIn_of _ (by decide +kernel)) ggX11_act_X7_leans
set_option maxRecDepth 20000 in
theorem gX11_act_X7_leans_u230X9 : GoodIn wsX11_act (va_wsU RX11 230 RX9 "HeadsByHair$Throw" ⟨"HeadsByHair$Throw", "leans", "(ILHeadsByHair$Trace;)I"⟩ yX7_leans wsX7_leans) := goodIn_app (goodIn_of _ (by decide +kernel)) ggX11_act_X7_leans
set_option maxRecDepth 20000 in
theorem gX11_act_X10_leans_u230X10 : GoodIn wsX11_act (va_wsO RX11 230 RX10 "HeadsByHair$Throw" ⟨"HeadsByHair$Throw", "leans", "(ILHeadsByHair$Trace;)I"⟩ yX10_leans wsX10_leans) := goodIn_app (goodIn_of _ (by decide +kernel)) ggX11_act_X10_leans
theorem dX11_act_0 : decode cX11_act 0 = .ok (.aload_n 0, 1) := by decide +kernel
theorem dX11_act_1 : decode cX11_act 1 = .ok (.getfield 38, 3) := by decide +kernel
theorem dX11_act_4 : decode cX11_act 4 = .ok (.iconst 0, 1) := by decide +kernel
theorem dX11_act_5 : decode cX11_act 5 = .ok (.putfield 220, 3) := by decide +kernel
theorem dX11_act_8 : decode cX11_act 8 = .ok (.aload_n 0, 1) := by decide +kernel
theorem dX11_act_9 : decode cX11_act 9 = .ok (.iload_n 1, 1) := by decide +kernel
theorem dX11_act_10 : decode cX11_act 10 = .ok (.invokevirtual 113, 3) := by decide +kernel
theorem dX11_act_13 : decode cX11_act 13 = .ok (.astore 4, 2) := by decide +kernel
theorem dX11_act_15 : decode cX11_act 15 = .ok (.aload 4, 2) := by decide +kernel
theorem dX11_act_17 : decode cX11_act 17 = .ok (.ifnonnull 5, 3) := by decide +kernel
theorem dX11_act_20 : decode cX11_act 20 = .ok (.iconst 0, 1) := by decide +kernel
theorem dX11_act_21 : decode cX11_act 21 = .ok (.ireturn, 1) := by decide +kernel
theorem dX11_act_22 : decode cX11_act 22 = .ok (.iload_n 2, 1) := by decide +kernel
theorem dX11_act_23 : decode cX11_act 23 = .ok (.tableswitch 58 0 2 #[25, 36, 47], 25) := by decide +kernel
theorem dX11_act_48 : decode cX11_act 48 = .ok (.aload 4, 2) := by decide +kernel
theorem dX11_act_50 : decode cX11_act 50 = .ok (.iload_n 3, 1) := by decide +kernel
theorem dX11_act_51 : decode cX11_act 51 = .ok (.aload_n 0, 1) := by decide +kernel
theorem dX11_act_52 : decode cX11_act 52 = .ok (.getfield 38, 3) := by decide +kernel
theorem dX11_act_55 : decode cX11_act 55 = .ok (.invokevirtual 223, 3) := by decide +kernel
theorem dX11_act_58 : decode cX11_act 58 = .ok (.ireturn, 1) := by decide +kernel
theorem dX11_act_59 : decode cX11_act 59 = .ok (.aload 4, 2) := by decide +kernel
theorem dX11_act_61 : decode cX11_act 61 = .ok (.iload_n 3, 1) := by decide +kernel
theorem dX11_act_62 : decode cX11_act 62 = .ok (.aload_n 0, 1) := by decide +kernel
theorem dX11_act_63 : decode cX11_act 63 = .ok (.getfield 38, 3) := by decide +kernel
theorem dX11_act_66 : decode cX11_act 66 = .ok (.invokevirtual 227, 3) := by decide +kernel
theorem dX11_act_69 : decode cX11_act 69 = .ok (.ireturn, 1) := by decide +kernel
theorem dX11_act_70 : decode cX11_act 70 = .ok (.aload 4, 2) := by decide +kernel
theorem dX11_act_72 : decode cX11_act 72 = .ok (.iload_n 3, 1) := by decide +kernel
theorem dX11_act_73 : decode cX11_act 73 = .ok (.aload_n 0, 1) := by decide +kernel
theorem dX11_act_74 : decode cX11_act 74 = .ok (.getfield 38, 3) := by decide +kernel
theorem dX11_act_77 : decode cX11_act 77 = .ok (.invokevirtual 230, 3) := by decide +kernel
theorem dX11_act_80 : decode cX11_act 80 = .ok (.ireturn, 1) := by decide +kernel
theorem dX11_act_81 : decode cX11_act 81 = .ok (.iconst 0, 1) := by decide +kernel
theorem dX11_act_82 : decode cX11_act 82 = .ok (.ireturn, 1) := by decide +kernel
set_option maxRecDepth 20000 in
theorem ggX11_trace_X11_isWithin : GoodIn wsX11_trace wsX11_isWithin := goodIn_r _ [9] (by decide +kernel) (by decide +kernel)
set_option maxRecDepth 20000 in
theorem gX11_trace_X11_isWithin : GoodIn wsX11_trace (va_wsS RX11 42 yX11_isWithin wsX11_isWithin) := goodIn_app (goodIn_of _ (by decide +kernel)) ggX11_trace_X11_isWithin
theorem dX11_trace_0 : decode cX11_trace 0 = .ok (.iload_n 1, 1) := by decide +kernel
theorem dX11_trace_1 : decode cX11_trace 1 = .ok (.iconst 0, 1) := by decide +kernel
theorem dX11_trace_2 : decode cX11_trace 2 = .ok (.aload_n 0, 1) := by decide +kernel
theorem dX11_trace_3 : decode cX11_trace 3 = .ok (.getfield 38, 3) := by decide +kernel
theorem dX11_trace_6 : decode cX11_trace 6 = .ok (.getfield 220, 3) := by decide +kernel
theorem dX11_trace_9 : decode cX11_trace 9 = .ok (.bipush 20, 2) := by decide +kernel
theorem dX11_trace_11 : decode cX11_trace 11 = .ok (.invokestatic 178, 3) := by decide +kernel
theorem dX11_trace_14 : decode cX11_trace 14 = .ok (.iconst 1, 1) := by decide +kernel
theorem dX11_trace_15 : decode cX11_trace 15 = .ok (.isub, 1) := by decide +kernel
theorem dX11_trace_16 : decode cX11_trace 16 = .ok (.invokestatic 42, 3) := by decide +kernel
theorem dX11_trace_19 : decode cX11_trace 19 = .ok (.ifCond .ne 5, 3) := by decide +kernel
theorem dX11_trace_22 : decode cX11_trace 22 = .ok (.iconst (-1), 1) := by decide +kernel
theorem dX11_trace_23 : decode cX11_trace 23 = .ok (.ireturn, 1) := by decide +kernel
theorem dX11_trace_24 : decode cX11_trace 24 = .ok (.aload_n 0, 1) := by decide +kernel
theorem dX11_trace_25 : decode cX11_trace 25 = .ok (.getfield 38, 3) := by decide +kernel
theorem dX11_trace_28 : decode cX11_trace 28 = .ok (.getfield 233, 3) := by decide +kernel
theorem dX11_trace_31 : decode cX11_trace 31 = .ok (.iload_n 1, 1) := by decide +kernel
theorem dX11_trace_32 : decode cX11_trace 32 = .ok (.iaload, 1) := by decide +kernel
theorem dX11_trace_33 : decode cX11_trace 33 = .ok (.ireturn, 1) := by decide +kernel
set_option maxRecDepth 20000 in
theorem ggX11_as_X11_lawOf : GoodIn wsX11_as wsX11_lawOf := goodIn_r _ [6, 7, 8, 9, 5, 10, 55, 56, 57, 58, 59, 60, 61, 62, 63, 64, 65, 66, 67, 68, 69, 70, 71, 72, 73, 74] (by decide +kernel) (by decide +kernel)
set_option maxRecDepth 20000 in
theorem gX11_as_X11_lawOf : GoodIn wsX11_as (wsV RX11 113 RX11 yX11_lawOf wsX11_lawOf) := goodIn_app (goodIn_of _ (by decide +kernel)) ggX11_as_X11_lawOf
set_option maxRecDepth 20000 in
theorem ggX11_as_X11_isWithin : GoodIn wsX11_as wsX11_isWithin := goodIn_r _ [10] (by decide +kernel) (by decide +kernel)
set_option maxRecDepth 20000 in
theorem gX11_as_X11_isWithin : GoodIn wsX11_as (va_wsS RX11 42 yX11_isWithin wsX11_isWithin) := goodIn_app (goodIn_of _ (by decide +kernel)) ggX11_as_X11_isWithin
set_option maxRecDepth 20000 in
theorem ggX11_as_X11_isOfKind : GoodIn wsX11_as wsX11_isOfKind := goodIn_r _ [13, 14, 15, 16, 17, 18, 19] (by decide +kernel) (by decide +kernel)
set_option maxRecDepth 20000 in
theorem gX11_as_X11_isOfKind : GoodIn wsX11_as (va_wsS RX11 236 yX11_isOfKind wsX11_isOfKind) := goodIn_app (goodIn_of _ (by decide +kernel)) ggX11_as_X11_isOfKind
theorem dX11_as_0 : decode cX11_as 0 = .ok (.aload_n 0, 1) := by decide +kernel
theorem dX11_as_1 : decode cX11_as 1 = .ok (.iload_n 1, 1) := by decide +kernel
theorem dX11_as_2 : decode cX11_as 2 = .ok (.invokevirtual 113, 3) := by decide +kernel
theorem dX11_as_5 : decode cX11_as 5 = .ok (.astore_n 3, 1) := by decide +kernel
theorem dX11_as_6 : decode cX11_as 6 = .ok (.aload_n 3, 1) := by decide +kernel
theorem dX11_as_7 : decode cX11_as 7 = .ok (.ifnull 13, 3) := by decide +kernel
theorem dX11_as_10 : decode cX11_as 10 = .ok (.iload_n 2, 1) := by decide +kernel
theorem dX11_as_11 : decode cX11_as 11 = .ok (.iconst 0, 1) := by decide +kernel
theorem dX11_as_12 : decode cX11_as 12 = .ok (.bipush 6, 2) := by decide +kernel
theorem dX11_as_14 : decode cX11_as 14 = .ok (.invokestatic 42, 3) := by decide +kernel
theorem dX11_as_17 : decode cX11_as 17 = .ok (.ifCond .ne 5, 3) := by decide +kernel
theorem dX11_as_20 : decode cX11_as 20 = .ok (.iconst (-1), 1) := by decide +kernel
theorem dX11_as_21 : decode cX11_as 21 = .ok (.ireturn, 1) := by decide +kernel
theorem dX11_as_22 : decode cX11_as 22 = .ok (.aload_n 3, 1) := by decide +kernel
theorem dX11_as_23 : decode cX11_as 23 = .ok (.iload_n 2, 1) := by decide +kernel
theorem dX11_as_24 : decode cX11_as 24 = .ok (.invokestatic 236, 3) := by decide +kernel
theorem dX11_as_27 : decode cX11_as 27 = .ok (.ifCond .eq 10, 3) := by decide +kernel
theorem dX11_as_30 : decode cX11_as 30 = .ok (.aload_n 3, 1) := by decide +kernel
theorem dX11_as_31 : decode cX11_as 31 = .ok (.getfield 122, 3) := by decide +kernel
theorem dX11_as_34 : decode cX11_as 34 = .ok (.goto 5, 3) := by decide +kernel
theorem dX11_as_37 : decode cX11_as 37 = .ok (.bipush (-6), 2) := by decide +kernel
theorem dX11_as_39 : decode cX11_as 39 = .ok (.ireturn, 1) := by decide +kernel
set_option maxRecDepth 20000 in
theorem ggX11_image_X6_becomes : GoodIn wsX11_image wsX6_becomes := goodIn_r _ [7, 8, 9, 10, 11, 12, 13, 14, 15, 16, 17, 18, 19, 20, 21, 22, 23, 5, 24, 25, 26, 27, 28, 29, 30, 31, 32, 39, 40, 41, 42, 43, 44, 45, 46, 47, 48, 49, 50, 51, 52] (by decide +kernel) (by decide +kernel)
set_option maxRecDepth 20000 in
theorem gX11_image_X6_becomes_n240 : GoodIn wsX11_image (wsX6_becomes) := ggX11_image_X6_becomes
theorem dX11_image_0 : decode cX11_image 0 = .ok (.aload_n 0, 1) := by decide +kernel
theorem dX11_image_1 : decode cX11_image 1 = .ok (.getfield 18, 3) := by decide +kernel
theorem dX11_image_4 : decode cX11_image 4 = .ok (.aload_n 0, 1) := by decide +kernel
theorem dX11_image_5 : decode cX11_image 5 = .ok (.getfield 12, 3) := by decide +kernel
theorem dX11_image_8 : decode cX11_image 8 = .ok (.invokevirtual 240, 3) := by decide +kernel
theorem dX11_image_11 : decode cX11_image 11 = .ok (.aload_n 0, 1) := by decide +kernel
theorem dX11_image_12 : decode cX11_image 12 = .ok (.iconst 1, 1) := by decide +kernel
theorem dX11_image_13 : decode cX11_image 13 = .ok (.putfield 244, 3) := by decide +kernel
theorem dX11_image_16 : decode cX11_image 16 = .ok (.aload_n 0, 1) := by decide +kernel
theorem dX11_image_17 : decode cX11_image 17 = .ok (.getfield 12, 3) := by decide +kernel
theorem dX11_image_20 : decode cX11_image 20 = .ok (.getfield 57, 3) := by decide +kernel
theorem dX11_image_23 : decode cX11_image 23 = .ok (.ireturn, 1) := by decide +kernel
set_option maxRecDepth 20000 in
theorem ggX11_undo_X6_becomes : GoodIn wsX11_undo wsX6_becomes := goodIn_r _ [7, 8, 9, 10, 11, 12, 13, 14, 15, 16, 17, 18, 19, 20, 21, 22, 23, 5, 24, 25, 26, 27, 28, 29, 30, 31, 32, 39, 40, 41, 42, 43, 44, 45, 46, 47, 48, 49, 50, 51, 52] (by decide +kernel) (by decide +kernel)
set_option maxRecDepth 20000 in
theorem gX11_undo_X6_becomes_n240 : GoodIn wsX11_undo (wsX6_becomes) := ggX11_undo_X6_becomes
theorem dX11_undo_0 : decode cX11_undo 0 = .ok (.aload_n 0, 1) := by decide +kernel
theorem dX11_undo_1 : decode cX11_undo 1 = .ok (.getfield 244, 3) := by decide +kernel
theorem dX11_undo_4 : decode cX11_undo 4 = .ok (.ifCond .ne 6, 3) := by decide +kernel
theorem dX11_undo_7 : decode cX11_undo 7 = .ok (.bipush (-3), 2) := by decide +kernel
theorem dX11_undo_9 : decode cX11_undo 9 = .ok (.ireturn, 1) := by decide +kernel
theorem dX11_undo_10 : decode cX11_undo 10 = .ok (.aload_n 0, 1) := by decide +kernel
theorem dX11_undo_11 : decode cX11_undo 11 = .ok (.getfield 12, 3) := by decide +kernel
theorem dX11_undo_14 : decode cX11_undo 14 = .ok (.aload_n 0, 1) := by decide +kernel
theorem dX11_undo_15 : decode cX11_undo 15 = .ok (.getfield 18, 3) := by decide +kernel
theorem dX11_undo_18 : decode cX11_undo 18 = .ok (.invokevirtual 240, 3) := by decide +kernel
theorem dX11_undo_21 : decode cX11_undo 21 = .ok (.aload_n 0, 1) := by decide +kernel
theorem dX11_undo_22 : decode cX11_undo 22 = .ok (.getfield 12, 3) := by decide +kernel
theorem dX11_undo_25 : decode cX11_undo 25 = .ok (.getfield 57, 3) := by decide +kernel
theorem dX11_undo_28 : decode cX11_undo 28 = .ok (.ireturn, 1) := by decide +kernel
theorem dX11_count_0 : decode cX11_count 0 = .ok (.iload_n 1, 1) := by decide +kernel
theorem dX11_count_1 : decode cX11_count 1 = .ok (.tableswitch 87 0 5 #[39, 47, 55, 63, 71, 79], 39) := by decide +kernel
theorem dX11_count_40 : decode cX11_count 40 = .ok (.aload_n 0, 1) := by decide +kernel
theorem dX11_count_41 : decode cX11_count 41 = .ok (.getfield 12, 3) := by decide +kernel
theorem dX11_count_44 : decode cX11_count 44 = .ok (.getfield 46, 3) := by decide +kernel
theorem dX11_count_47 : decode cX11_count 47 = .ok (.ireturn, 1) := by decide +kernel
theorem dX11_count_48 : decode cX11_count 48 = .ok (.aload_n 0, 1) := by decide +kernel
theorem dX11_count_49 : decode cX11_count 49 = .ok (.getfield 12, 3) := by decide +kernel
theorem dX11_count_52 : decode cX11_count 52 = .ok (.getfield 57, 3) := by decide +kernel
theorem dX11_count_55 : decode cX11_count 55 = .ok (.ireturn, 1) := by decide +kernel
theorem dX11_count_56 : decode cX11_count 56 = .ok (.aload_n 0, 1) := by decide +kernel
theorem dX11_count_57 : decode cX11_count 57 = .ok (.getfield 12, 3) := by decide +kernel
theorem dX11_count_60 : decode cX11_count 60 = .ok (.getfield 95, 3) := by decide +kernel
theorem dX11_count_63 : decode cX11_count 63 = .ok (.ireturn, 1) := by decide +kernel
theorem dX11_count_64 : decode cX11_count 64 = .ok (.aload_n 0, 1) := by decide +kernel
theorem dX11_count_65 : decode cX11_count 65 = .ok (.getfield 12, 3) := by decide +kernel
theorem dX11_count_68 : decode cX11_count 68 = .ok (.getfield 202, 3) := by decide +kernel
theorem dX11_count_71 : decode cX11_count 71 = .ok (.ireturn, 1) := by decide +kernel
theorem dX11_count_72 : decode cX11_count 72 = .ok (.aload_n 0, 1) := by decide +kernel
theorem dX11_count_73 : decode cX11_count 73 = .ok (.getfield 12, 3) := by decide +kernel
theorem dX11_count_76 : decode cX11_count 76 = .ok (.getfield 89, 3) := by decide +kernel
theorem dX11_count_79 : decode cX11_count 79 = .ok (.ireturn, 1) := by decide +kernel
theorem dX11_count_80 : decode cX11_count 80 = .ok (.aload_n 0, 1) := by decide +kernel
theorem dX11_count_81 : decode cX11_count 81 = .ok (.getfield 38, 3) := by decide +kernel
theorem dX11_count_84 : decode cX11_count 84 = .ok (.getfield 220, 3) := by decide +kernel
theorem dX11_count_87 : decode cX11_count 87 = .ok (.ireturn, 1) := by decide +kernel
theorem dX11_count_88 : decode cX11_count 88 = .ok (.iconst (-1), 1) := by decide +kernel
theorem dX11_count_89 : decode cX11_count 89 = .ok (.ireturn, 1) := by decide +kernel
theorem dX11_isWithin_0 : decode cX11_isWithin 0 = .ok (.iload_n 0, 1) := by decide +kernel
theorem dX11_isWithin_1 : decode cX11_isWithin 1 = .ok (.iload_n 1, 1) := by decide +kernel
theorem dX11_isWithin_2 : decode cX11_isWithin 2 = .ok (.if_icmp .lt 12, 3) := by decide +kernel
theorem dX11_isWithin_5 : decode cX11_isWithin 5 = .ok (.iload_n 0, 1) := by decide +kernel
theorem dX11_isWithin_6 : decode cX11_isWithin 6 = .ok (.iload_n 2, 1) := by decide +kernel
theorem dX11_isWithin_7 : decode cX11_isWithin 7 = .ok (.if_icmp .gt 7, 3) := by decide +kernel
theorem dX11_isWithin_10 : decode cX11_isWithin 10 = .ok (.iconst 1, 1) := by decide +kernel
theorem dX11_isWithin_11 : decode cX11_isWithin 11 = .ok (.goto 4, 3) := by decide +kernel
theorem dX11_isWithin_14 : decode cX11_isWithin 14 = .ok (.iconst 0, 1) := by decide +kernel
theorem dX11_isWithin_15 : decode cX11_isWithin 15 = .ok (.ireturn, 1) := by decide +kernel
set_option maxRecDepth 20000 in
theorem ggX11_isPercent_X11_isWithin : GoodIn wsX11_isPercent wsX11_isWithin := goodIn_r _ [4] (by decide +kernel) (by decide +kernel)
set_option maxRecDepth 20000 in
theorem gX11_isPercent_X11_isWithin : GoodIn wsX11_isPercent (va_wsS RX11 42 yX11_isWithin wsX11_isWithin) := goodIn_app (goodIn_of _ (by decide +kernel)) ggX11_isPercent_X11_isWithin
theorem dX11_isPercent_0 : decode cX11_isPercent 0 = .ok (.iload_n 0, 1) := by decide +kernel
theorem dX11_isPercent_1 : decode cX11_isPercent 1 = .ok (.iconst 0, 1) := by decide +kernel
theorem dX11_isPercent_2 : decode cX11_isPercent 2 = .ok (.bipush 100, 2) := by decide +kernel
theorem dX11_isPercent_4 : decode cX11_isPercent 4 = .ok (.invokestatic 42, 3) := by decide +kernel
theorem dX11_isPercent_7 : decode cX11_isPercent 7 = .ok (.ireturn, 1) := by decide +kernel
set_option maxRecDepth 20000 in
theorem ggX11_isPart_X11_isWithin : GoodIn wsX11_isPart wsX11_isWithin := goodIn_r _ [4] (by decide +kernel) (by decide +kernel)
set_option maxRecDepth 20000 in
theorem gX11_isPart_X11_isWithin : GoodIn wsX11_isPart (va_wsS RX11 42 yX11_isWithin wsX11_isWithin) := goodIn_app (goodIn_of _ (by decide +kernel)) ggX11_isPart_X11_isWithin
theorem dX11_isPart_0 : decode cX11_isPart 0 = .ok (.iload_n 0, 1) := by decide +kernel
theorem dX11_isPart_1 : decode cX11_isPart 1 = .ok (.iconst 0, 1) := by decide +kernel
theorem dX11_isPart_2 : decode cX11_isPart 2 = .ok (.iconst 1, 1) := by decide +kernel
theorem dX11_isPart_3 : decode cX11_isPart 3 = .ok (.invokestatic 42, 3) := by decide +kernel
theorem dX11_isPart_6 : decode cX11_isPart 6 = .ok (.ireturn, 1) := by decide +kernel
set_option maxRecDepth 20000 in
theorem ggX11_isCoin_X11_isWithin : GoodIn wsX11_isCoin wsX11_isWithin := goodIn_r _ [5] (by decide +kernel) (by decide +kernel)
set_option maxRecDepth 20000 in
theorem gX11_isCoin_X11_isWithin : GoodIn wsX11_isCoin (va_wsS RX11 42 yX11_isWithin wsX11_isWithin) := goodIn_app (goodIn_of _ (by decide +kernel)) ggX11_isCoin_X11_isWithin
theorem dX11_isCoin_0 : decode cX11_isCoin 0 = .ok (.iload_n 1, 1) := by decide +kernel
theorem dX11_isCoin_1 : decode cX11_isCoin 1 = .ok (.iconst 0, 1) := by decide +kernel
theorem dX11_isCoin_2 : decode cX11_isCoin 2 = .ok (.aload_n 0, 1) := by decide +kernel
theorem dX11_isCoin_3 : decode cX11_isCoin 3 = .ok (.getfield 12, 3) := by decide +kernel
theorem dX11_isCoin_6 : decode cX11_isCoin 6 = .ok (.getfield 46, 3) := by decide +kernel
theorem dX11_isCoin_9 : decode cX11_isCoin 9 = .ok (.iconst 1, 1) := by decide +kernel
theorem dX11_isCoin_10 : decode cX11_isCoin 10 = .ok (.isub, 1) := by decide +kernel
theorem dX11_isCoin_11 : decode cX11_isCoin 11 = .ok (.invokestatic 42, 3) := by decide +kernel
theorem dX11_isCoin_14 : decode cX11_isCoin 14 = .ok (.ireturn, 1) := by decide +kernel
set_option maxRecDepth 20000 in
theorem ggX11_isHand_X11_isWithin : GoodIn wsX11_isHand wsX11_isWithin := goodIn_r _ [5] (by decide +kernel) (by decide +kernel)
set_option maxRecDepth 20000 in
theorem gX11_isHand_X11_isWithin : GoodIn wsX11_isHand (va_wsS RX11 42 yX11_isWithin wsX11_isWithin) := goodIn_app (goodIn_of _ (by decide +kernel)) ggX11_isHand_X11_isWithin
theorem dX11_isHand_0 : decode cX11_isHand 0 = .ok (.iload_n 1, 1) := by decide +kernel
theorem dX11_isHand_1 : decode cX11_isHand 1 = .ok (.iconst 0, 1) := by decide +kernel
theorem dX11_isHand_2 : decode cX11_isHand 2 = .ok (.aload_n 0, 1) := by decide +kernel
theorem dX11_isHand_3 : decode cX11_isHand 3 = .ok (.getfield 12, 3) := by decide +kernel
theorem dX11_isHand_6 : decode cX11_isHand 6 = .ok (.getfield 57, 3) := by decide +kernel
theorem dX11_isHand_9 : decode cX11_isHand 9 = .ok (.iconst 1, 1) := by decide +kernel
theorem dX11_isHand_10 : decode cX11_isHand 10 = .ok (.isub, 1) := by decide +kernel
theorem dX11_isHand_11 : decode cX11_isHand 11 = .ok (.invokestatic 42, 3) := by decide +kernel
theorem dX11_isHand_14 : decode cX11_isHand 14 = .ok (.ireturn, 1) := by decide +kernel
set_option maxRecDepth 20000 in
theorem ggX11_lawOf_X11_isWithin : GoodIn wsX11_lawOf wsX11_isWithin := goodIn_r _ [5] (by decide +kernel) (by decide +kernel)
set_option maxRecDepth 20000 in
theorem gX11_lawOf_X11_isWithin : GoodIn wsX11_lawOf (va_wsS RX11 42 yX11_isWithin wsX11_isWithin) := goodIn_app (goodIn_of _ (by decide +kernel)) ggX11_lawOf_X11_isWithin
theorem dX11_lawOf_0 : decode cX11_lawOf 0 = .ok (.iload_n 1, 1) := by decide +kernel
theorem dX11_lawOf_1 : decode cX11_lawOf 1 = .ok (.iconst 0, 1) := by decide +kernel
theorem dX11_lawOf_2 : decode cX11_lawOf 2 = .ok (.aload_n 0, 1) := by decide +kernel
theorem dX11_lawOf_3 : decode cX11_lawOf 3 = .ok (.getfield 12, 3) := by decide +kernel
theorem dX11_lawOf_6 : decode cX11_lawOf 6 = .ok (.getfield 95, 3) := by decide +kernel
theorem dX11_lawOf_9 : decode cX11_lawOf 9 = .ok (.iconst 1, 1) := by decide +kernel
theorem dX11_lawOf_10 : decode cX11_lawOf 10 = .ok (.isub, 1) := by decide +kernel
theorem dX11_lawOf_11 : decode cX11_lawOf 11 = .ok (.invokestatic 42, 3) := by decide +kernel
theorem dX11_lawOf_14 : decode cX11_lawOf 14 = .ok (.ifCond .eq 15, 3) := by decide +kernel
theorem dX11_lawOf_17 : decode cX11_lawOf 17 = .ok (.aload_n 0, 1) := by decide +kernel
theorem dX11_lawOf_18 : decode cX11_lawOf 18 = .ok (.getfield 12, 3) := by decide +kernel
theorem dX11_lawOf_21 : decode cX11_lawOf 21 = .ok (.getfield 105, 3) := by decide +kernel
theorem dX11_lawOf_24 : decode cX11_lawOf 24 = .ok (.iload_n 1, 1) := by decide +kernel
theorem dX11_lawOf_25 : decode cX11_lawOf 25 = .ok (.aaload, 1) := by decide +kernel
theorem dX11_lawOf_26 : decode cX11_lawOf 26 = .ok (.goto 4, 3) := by decide +kernel
theorem dX11_lawOf_29 : decode cX11_lawOf 29 = .ok (.aconst_null, 1) := by decide +kernel
theorem dX11_lawOf_30 : decode cX11_lawOf 30 = .ok (.areturn, 1) := by decide +kernel
set_option maxRecDepth 20000 in
theorem ggX11_newLaw_X9_init : GoodIn wsX11_newLaw wsX9_init := goodIn_r _ [25, 26, 27, 22, 28, 29, 30, 31, 32, 33, 34, 35, 36, 37, 38, 39, 40, 41, 42, 43, 44, 45, 46, 47, 48, 49, 50, 51, 52, 53, 54, 55, 93, 94, 95, 96, 97, 98, 99, 100, 101, 102, 108, 109, 110, 111, 112, 103, 104, 105, 106, 107, 113, 114, 115, 116, 117, 77, 78, 79, 80, 81, 88, 89, 90, 91, 92, 118, 119, 120, 121, 122, 123, 124] (by decide +kernel) (by decide +kernel)
set_option maxRecDepth 20000 in
theorem gX11_newLaw_X9_init : GoodIn wsX11_newLaw (wsX9_init) := ggX11_newLaw_X9_init
set_option maxRecDepth 20000 in
theorem ggX11_newLaw_X10_init : GoodIn wsX11_newLaw wsX10_init := goodIn_r _ [58, 59, 24, 3, 25, 26, 27, 22, 28, 29, 30, 31, 32, 33, 34, 35, 36, 37, 38, 39, 40, 41, 42, 43, 44, 45, 46, 47, 48, 49, 50, 51, 52, 53, 54, 55, 93, 94, 95, 96, 97, 98, 99, 100, 101, 102, 108, 109, 110, 111, 112, 103, 104, 105, 106, 107, 113, 114, 115, 116, 117, 77, 78, 79, 80, 81, 88, 89, 90, 91, 92, 118, 119, 120, 121, 122, 123, 124] (by decide +kernel) (by decide +kernel)
set_option maxRecDepth 20000 in
theorem gX11_newLaw_X10_init : GoodIn wsX11_newLaw (wsX10_init) := ggX11_newLaw_X10_init
set_option maxRecDepth 20000 in
theorem ggX11_newLaw_X0_init : GoodIn wsX11_newLaw wsX0_init := goodIn_r _ [62, 63, 27, 22, 28, 29, 30, 31, 32, 33, 34, 35, 36, 37, 38, 39, 40, 41, 42, 43, 44, 45, 46, 47, 48, 49, 50, 51, 52, 53, 54, 55, 93, 94, 95, 96, 97, 98, 99, 100, 101, 102, 108, 109, 110, 111, 112, 103, 104, 105, 106, 107, 113, 114, 115, 116, 117, 77, 78, 79, 80, 81, 88, 89, 90, 91, 92, 118, 119, 120, 121, 122, 123, 124] (by decide +kernel) (by decide +kernel)
set_option maxRecDepth 20000 in
theorem gX11_newLaw_X0_init : GoodIn wsX11_newLaw (wsX0_init) := ggX11_newLaw_X0_init
set_option maxRecDepth 20000 in
theorem ggX11_newLaw_X1_init : GoodIn wsX11_newLaw wsX1_init := goodIn_r _ [66, 67, 61, 10, 62, 63, 27, 22, 28, 29, 30, 31, 32, 33, 34, 35, 36, 37, 38, 39, 40, 41, 42, 43, 44, 45, 46, 47, 48, 49, 50, 51, 52, 53, 54, 55, 93, 94, 95, 96, 97, 98, 99, 100, 101, 102, 108, 109, 110, 111, 112, 103, 104, 105, 106, 107, 113, 114, 115, 116, 117, 77, 78, 79, 80, 81, 88, 89, 90, 91, 92, 118, 119, 120, 121, 122, 123, 124] (by decide +kernel) (by decide +kernel)
set_option maxRecDepth 20000 in
theorem gX11_newLaw_X1_init : GoodIn wsX11_newLaw (wsX1_init) := ggX11_newLaw_X1_init
set_option maxRecDepth 20000 in
theorem ggX11_newLaw_X5_init : GoodIn wsX11_newLaw wsX5_init := goodIn_r _ [70, 71, 27, 22, 28, 29, 30, 31, 32, 33, 34, 35, 36, 37, 38, 39, 40, 41, 42, 43, 44, 45, 46, 47, 48, 49, 50, 51, 52, 53, 54, 55, 93, 94, 95, 96, 97, 98, 99, 100, 101, 102, 108, 109, 110, 111, 112, 103, 104, 105, 106, 107, 113, 114, 115, 116, 117, 77, 78, 79, 80, 81, 88, 89, 90, 91, 92, 118, 119, 120, 121, 122, 123, 124] (by decide +kernel) (by decide +kernel)
set_option maxRecDepth 20000 in
theorem gX11_newLaw_X5_init : GoodIn wsX11_newLaw (wsX5_init) := ggX11_newLaw_X5_init
set_option maxRecDepth 20000 in
theorem ggX11_newLaw_X4_init : GoodIn wsX11_newLaw wsX4_init := goodIn_r _ [74, 75, 57, 7, 58, 59, 24, 3, 25, 26, 27, 22, 28, 29, 30, 31, 32, 33, 34, 35, 36, 37, 38, 39, 40, 41, 42, 43, 44, 45, 46, 47, 48, 49, 50, 51, 52, 53, 54, 55, 93, 94, 95, 96, 97, 98, 99, 100, 101, 102, 108, 109, 110, 111, 112, 103, 104, 105, 106, 107, 113, 114, 115, 116, 117, 77, 78, 79, 80, 81, 88, 89, 90, 91, 92, 118, 119, 120, 121, 122, 123, 124] (by decide +kernel) (by decide +kernel)
set_option maxRecDepth 20000 in
theorem gX11_newLaw_X4_init : GoodIn wsX11_newLaw (wsX4_init) := ggX11_newLaw_X4_init
set_option maxRecDepth 20000 in
theorem ggX11_newLaw_X7_init : GoodIn wsX11_newLaw wsX7_init := goodIn_r _ [28, 29, 30, 31, 32, 33, 34, 35, 36, 37, 38, 39, 40, 41, 42, 43, 44, 45, 46, 47, 48, 49, 50, 51, 52, 53, 54, 55, 93, 94, 95, 96, 97, 98, 99, 100, 101, 102, 108, 109, 110, 111, 112, 103, 104, 105, 106, 107, 113, 114, 115, 116, 117, 77, 78, 79, 80, 81, 88, 89, 90, 91, 92, 118, 119, 120, 121, 122, 123, 124] (by decide +kernel) (by decide +kernel)
set_option maxRecDepth 20000 in
theorem gX11_newLaw_X7_init : GoodIn wsX11_newLaw (wsX7_init) := ggX11_newLaw_X7_init
theorem dX11_newLaw_0 : decode cX11_newLaw 0 = .ok (.iload_n 1, 1) := by decide +kernel
theorem dX11_newLaw_1 : decode cX11_newLaw 1 = .ok (.tableswitch 129 1 6 #[39, 54, 69, 84, 99, 114], 39) := by decide +kernel
theorem dX11_newLaw_40 : decode cX11_newLaw 40 = .ok (.new 248, 3) := by decide +kernel
theorem dX11_newLaw_43 : decode cX11_newLaw 43 = .ok (.dup, 1) := by decide +kernel
theorem dX11_newLaw_44 : decode cX11_newLaw 44 = .ok (.iload_n 1, 1) := by decide +kernel
theorem dX11_newLaw_45 : decode cX11_newLaw 45 = .ok (.iload_n 2, 1) := by decide +kernel
theorem dX11_newLaw_46 : decode cX11_newLaw 46 = .ok (.iload_n 3, 1) := by decide +kernel
theorem dX11_newLaw_47 : decode cX11_newLaw 47 = .ok (.aload_n 0, 1) := by decide +kernel
theorem dX11_newLaw_48 : decode cX11_newLaw 48 = .ok (.getfield 24, 3) := by decide +kernel
theorem dX11_newLaw_51 : decode cX11_newLaw 51 = .ok (.invokespecial 250, 3) := by decide +kernel
theorem dX11_newLaw_54 : decode cX11_newLaw 54 = .ok (.areturn, 1) := by decide +kernel
theorem dX11_newLaw_55 : decode cX11_newLaw 55 = .ok (.new 253, 3) := by decide +kernel
theorem dX11_newLaw_58 : decode cX11_newLaw 58 = .ok (.dup, 1) := by decide +kernel
theorem dX11_newLaw_59 : decode cX11_newLaw 59 = .ok (.iload_n 1, 1) := by decide +kernel
theorem dX11_newLaw_60 : decode cX11_newLaw 60 = .ok (.iload_n 2, 1) := by decide +kernel
theorem dX11_newLaw_61 : decode cX11_newLaw 61 = .ok (.iload_n 3, 1) := by decide +kernel
theorem dX11_newLaw_62 : decode cX11_newLaw 62 = .ok (.aload_n 0, 1) := by decide +kernel
theorem dX11_newLaw_63 : decode cX11_newLaw 63 = .ok (.getfield 24, 3) := by decide +kernel
theorem dX11_newLaw_66 : decode cX11_newLaw 66 = .ok (.invokespecial 255, 3) := by decide +kernel
theorem dX11_newLaw_69 : decode cX11_newLaw 69 = .ok (.areturn, 1) := by decide +kernel
theorem dX11_newLaw_70 : decode cX11_newLaw 70 = .ok (.new 256, 3) := by decide +kernel
theorem dX11_newLaw_73 : decode cX11_newLaw 73 = .ok (.dup, 1) := by decide +kernel
theorem dX11_newLaw_74 : decode cX11_newLaw 74 = .ok (.iload_n 1, 1) := by decide +kernel
theorem dX11_newLaw_75 : decode cX11_newLaw 75 = .ok (.iload_n 2, 1) := by decide +kernel
theorem dX11_newLaw_76 : decode cX11_newLaw 76 = .ok (.iload_n 3, 1) := by decide +kernel
theorem dX11_newLaw_77 : decode cX11_newLaw 77 = .ok (.aload_n 0, 1) := by decide +kernel
theorem dX11_newLaw_78 : decode cX11_newLaw 78 = .ok (.getfield 24, 3) := by decide +kernel
theorem dX11_newLaw_81 : decode cX11_newLaw 81 = .ok (.invokespecial 258, 3) := by decide +kernel
theorem dX11_newLaw_84 : decode cX11_newLaw 84 = .ok (.areturn, 1) := by decide +kernel
theorem dX11_newLaw_85 : decode cX11_newLaw 85 = .ok (.new 259, 3) := by decide +kernel
theorem dX11_newLaw_88 : decode cX11_newLaw 88 = .ok (.dup, 1) := by decide +kernel
theorem dX11_newLaw_89 : decode cX11_newLaw 89 = .ok (.iload_n 1, 1) := by decide +kernel
theorem dX11_newLaw_90 : decode cX11_newLaw 90 = .ok (.iload_n 2, 1) := by decide +kernel
theorem dX11_newLaw_91 : decode cX11_newLaw 91 = .ok (.iload_n 3, 1) := by decide +kernel
theorem dX11_newLaw_92 : decode cX11_newLaw 92 = .ok (.aload_n 0, 1) := by decide +kernel
theorem dX11_newLaw_93 : decode cX11_newLaw 93 = .ok (.getfield 24, 3) := by decide +kernel
theorem dX11_newLaw_96 : decode cX11_newLaw 96 = .ok (.invokespecial 261, 3) := by decide +kernel
theorem dX11_newLaw_99 : decode cX11_newLaw 99 = .ok (.areturn, 1) := by decide +kernel
theorem dX11_newLaw_100 : decode cX11_newLaw 100 = .ok (.new 262, 3) := by decide +kernel
theorem dX11_newLaw_103 : decode cX11_newLaw 103 = .ok (.dup, 1) := by decide +kernel
theorem dX11_newLaw_104 : decode cX11_newLaw 104 = .ok (.iload_n 1, 1) := by decide +kernel
theorem dX11_newLaw_105 : decode cX11_newLaw 105 = .ok (.iload_n 2, 1) := by decide +kernel
theorem dX11_newLaw_106 : decode cX11_newLaw 106 = .ok (.iload_n 3, 1) := by decide +kernel
theorem dX11_newLaw_107 : decode cX11_newLaw 107 = .ok (.aload_n 0, 1) := by decide +kernel
theorem dX11_newLaw_108 : decode cX11_newLaw 108 = .ok (.getfield 24, 3) := by decide +kernel
theorem dX11_newLaw_111 : decode cX11_newLaw 111 = .ok (.invokespecial 264, 3) := by decide +kernel
theorem dX11_newLaw_114 : decode cX11_newLaw 114 = .ok (.areturn, 1) := by decide +kernel
theorem dX11_newLaw_115 : decode cX11_newLaw 115 = .ok (.new 265, 3) := by decide +kernel
theorem dX11_newLaw_118 : decode cX11_newLaw 118 = .ok (.dup, 1) := by decide +kernel
theorem dX11_newLaw_119 : decode cX11_newLaw 119 = .ok (.iload_n 1, 1) := by decide +kernel
theorem dX11_newLaw_120 : decode cX11_newLaw 120 = .ok (.iload_n 2, 1) := by decide +kernel
theorem dX11_newLaw_121 : decode cX11_newLaw 121 = .ok (.iload_n 3, 1) := by decide +kernel
theorem dX11_newLaw_122 : decode cX11_newLaw 122 = .ok (.aload_n 0, 1) := by decide +kernel
theorem dX11_newLaw_123 : decode cX11_newLaw 123 = .ok (.getfield 24, 3) := by decide +kernel
theorem dX11_newLaw_126 : decode cX11_newLaw 126 = .ok (.invokespecial 267, 3) := by decide +kernel
theorem dX11_newLaw_129 : decode cX11_newLaw 129 = .ok (.areturn, 1) := by decide +kernel
theorem dX11_newLaw_130 : decode cX11_newLaw 130 = .ok (.new 118, 3) := by decide +kernel
theorem dX11_newLaw_133 : decode cX11_newLaw 133 = .ok (.dup, 1) := by decide +kernel
theorem dX11_newLaw_134 : decode cX11_newLaw 134 = .ok (.iload_n 1, 1) := by decide +kernel
theorem dX11_newLaw_135 : decode cX11_newLaw 135 = .ok (.iload_n 2, 1) := by decide +kernel
theorem dX11_newLaw_136 : decode cX11_newLaw 136 = .ok (.iload_n 3, 1) := by decide +kernel
theorem dX11_newLaw_137 : decode cX11_newLaw 137 = .ok (.aload_n 0, 1) := by decide +kernel
theorem dX11_newLaw_138 : decode cX11_newLaw 138 = .ok (.getfield 24, 3) := by decide +kernel
theorem dX11_newLaw_141 : decode cX11_newLaw 141 = .ok (.invokespecial 268, 3) := by decide +kernel
theorem dX11_newLaw_144 : decode cX11_newLaw 144 = .ok (.areturn, 1) := by decide +kernel
theorem dX11_isOfKind_0 : decode cX11_isOfKind 0 = .ok (.iload_n 1, 1) := by decide +kernel
theorem dX11_isOfKind_1 : decode cX11_isOfKind 1 = .ok (.tableswitch 69 1 6 #[39, 44, 49, 54, 59, 64], 39) := by decide +kernel
theorem dX11_isOfKind_40 : decode cX11_isOfKind 40 = .ok (.aload_n 0, 1) := by decide +kernel
theorem dX11_isOfKind_41 : decode cX11_isOfKind 41 = .ok (.instanceof 248, 3) := by decide +kernel
theorem dX11_isOfKind_44 : decode cX11_isOfKind 44 = .ok (.ireturn, 1) := by decide +kernel
theorem dX11_isOfKind_45 : decode cX11_isOfKind 45 = .ok (.aload_n 0, 1) := by decide +kernel
theorem dX11_isOfKind_46 : decode cX11_isOfKind 46 = .ok (.instanceof 253, 3) := by decide +kernel
theorem dX11_isOfKind_49 : decode cX11_isOfKind 49 = .ok (.ireturn, 1) := by decide +kernel
theorem dX11_isOfKind_50 : decode cX11_isOfKind 50 = .ok (.aload_n 0, 1) := by decide +kernel
theorem dX11_isOfKind_51 : decode cX11_isOfKind 51 = .ok (.instanceof 256, 3) := by decide +kernel
theorem dX11_isOfKind_54 : decode cX11_isOfKind 54 = .ok (.ireturn, 1) := by decide +kernel
theorem dX11_isOfKind_55 : decode cX11_isOfKind 55 = .ok (.aload_n 0, 1) := by decide +kernel
theorem dX11_isOfKind_56 : decode cX11_isOfKind 56 = .ok (.instanceof 259, 3) := by decide +kernel
theorem dX11_isOfKind_59 : decode cX11_isOfKind 59 = .ok (.ireturn, 1) := by decide +kernel
theorem dX11_isOfKind_60 : decode cX11_isOfKind 60 = .ok (.aload_n 0, 1) := by decide +kernel
theorem dX11_isOfKind_61 : decode cX11_isOfKind 61 = .ok (.instanceof 262, 3) := by decide +kernel
theorem dX11_isOfKind_64 : decode cX11_isOfKind 64 = .ok (.ireturn, 1) := by decide +kernel
theorem dX11_isOfKind_65 : decode cX11_isOfKind 65 = .ok (.aload_n 0, 1) := by decide +kernel
theorem dX11_isOfKind_66 : decode cX11_isOfKind 66 = .ok (.instanceof 265, 3) := by decide +kernel
theorem dX11_isOfKind_69 : decode cX11_isOfKind 69 = .ok (.ireturn, 1) := by decide +kernel
theorem dX11_isOfKind_70 : decode cX11_isOfKind 70 = .ok (.iconst 1, 1) := by decide +kernel
theorem dX11_isOfKind_71 : decode cX11_isOfKind 71 = .ok (.ireturn, 1) := by decide +kernel
theorem dX11_begin_0 : decode cX11_begin 0 = .ok (.aload_n 0, 1) := by decide +kernel
theorem dX11_begin_1 : decode cX11_begin 1 = .ok (.getfield 31, 3) := by decide +kernel
theorem dX11_begin_4 : decode cX11_begin 4 = .ok (.iload_n 2, 1) := by decide +kernel
theorem dX11_begin_5 : decode cX11_begin 5 = .ok (.putfield 269, 3) := by decide +kernel
theorem dX11_begin_8 : decode cX11_begin 8 = .ok (.aload_n 0, 1) := by decide +kernel
theorem dX11_begin_9 : decode cX11_begin 9 = .ok (.getfield 31, 3) := by decide +kernel
theorem dX11_begin_12 : decode cX11_begin 12 = .ok (.aload_n 0, 1) := by decide +kernel
theorem dX11_begin_13 : decode cX11_begin 13 = .ok (.getfield 12, 3) := by decide +kernel
theorem dX11_begin_16 : decode cX11_begin 16 = .ok (.getfield 50, 3) := by decide +kernel
theorem dX11_begin_19 : decode cX11_begin 19 = .ok (.iload_n 3, 1) := by decide +kernel
theorem dX11_begin_20 : decode cX11_begin 20 = .ok (.iaload, 1) := by decide +kernel
theorem dX11_begin_21 : decode cX11_begin 21 = .ok (.putfield 272, 3) := by decide +kernel
theorem dX11_begin_24 : decode cX11_begin 24 = .ok (.aload_n 0, 1) := by decide +kernel
theorem dX11_begin_25 : decode cX11_begin 25 = .ok (.getfield 31, 3) := by decide +kernel
theorem dX11_begin_28 : decode cX11_begin 28 = .ok (.aload_n 0, 1) := by decide +kernel
theorem dX11_begin_29 : decode cX11_begin 29 = .ok (.getfield 12, 3) := by decide +kernel
theorem dX11_begin_32 : decode cX11_begin 32 = .ok (.getfield 54, 3) := by decide +kernel
theorem dX11_begin_35 : decode cX11_begin 35 = .ok (.iload_n 3, 1) := by decide +kernel
theorem dX11_begin_36 : decode cX11_begin 36 = .ok (.iaload, 1) := by decide +kernel
theorem dX11_begin_37 : decode cX11_begin 37 = .ok (.putfield 274, 3) := by decide +kernel
theorem dX11_begin_40 : decode cX11_begin 40 = .ok (.aload_n 0, 1) := by decide +kernel
theorem dX11_begin_41 : decode cX11_begin 41 = .ok (.getfield 31, 3) := by decide +kernel
theorem dX11_begin_44 : decode cX11_begin 44 = .ok (.iload 4, 2) := by decide +kernel
theorem dX11_begin_46 : decode cX11_begin 46 = .ok (.putfield 276, 3) := by decide +kernel
theorem dX11_begin_49 : decode cX11_begin 49 = .ok (.aload_n 0, 1) := by decide +kernel
theorem dX11_begin_50 : decode cX11_begin 50 = .ok (.getfield 31, 3) := by decide +kernel
theorem dX11_begin_53 : decode cX11_begin 53 = .ok (.iload 4, 2) := by decide +kernel
theorem dX11_begin_55 : decode cX11_begin 55 = .ok (.aload_n 1, 1) := by decide +kernel
theorem dX11_begin_56 : decode cX11_begin 56 = .ok (.getfield 125, 3) := by decide +kernel
theorem dX11_begin_59 : decode cX11_begin 59 = .ok (.iadd, 1) := by decide +kernel
theorem dX11_begin_60 : decode cX11_begin 60 = .ok (.putfield 132, 3) := by decide +kernel
theorem dX11_begin_63 : decode cX11_begin 63 = .ok (.aload_n 0, 1) := by decide +kernel
theorem dX11_begin_64 : decode cX11_begin 64 = .ok (.getfield 31, 3) := by decide +kernel
theorem dX11_begin_67 : decode cX11_begin 67 = .ok (.iconst 0, 1) := by decide +kernel
theorem dX11_begin_68 : decode cX11_begin 68 = .ok (.putfield 278, 3) := by decide +kernel
theorem dX11_begin_71 : decode cX11_begin 71 = .ok (.aload_n 0, 1) := by decide +kernel
theorem dX11_begin_72 : decode cX11_begin 72 = .ok (.getfield 31, 3) := by decide +kernel
theorem dX11_begin_75 : decode cX11_begin 75 = .ok (.iconst 0, 1) := by decide +kernel
theorem dX11_begin_76 : decode cX11_begin 76 = .ok (.putfield 146, 3) := by decide +kernel
theorem dX11_begin_79 : decode cX11_begin 79 = .ok (.aload_n 0, 1) := by decide +kernel
theorem dX11_begin_80 : decode cX11_begin 80 = .ok (.getfield 31, 3) := by decide +kernel
theorem dX11_begin_83 : decode cX11_begin 83 = .ok (.iconst 0, 1) := by decide +kernel
theorem dX11_begin_84 : decode cX11_begin 84 = .ok (.putfield 281, 3) := by decide +kernel
theorem dX11_begin_87 : decode cX11_begin 87 = .ok (.return_, 1) := by decide +kernel
set_option maxRecDepth 20000 in
theorem ggX11_sideAt_X2_goOn : GoodIn wsX11_sideAt wsX2_goOn := goodIn_r _ [6, 7, 8, 9, 10, 11, 12, 13, 14, 15, 16, 4, 17, 18, 19, 20, 21, 22, 23, 24, 25, 117, 118, 119, 120, 121, 122, 123, 124] (by decide +kernel) (by decide +kernel)
set_option maxRecDepth 20000 in
theorem gX11_sideAt_X2_goOn_n138 : GoodIn wsX11_sideAt (wsX2_goOn) := ggX11_sideAt_X2_goOn
set_option maxRecDepth 20000 in
theorem ggX11_sideAt_X0_sideUp : GoodIn wsX11_sideAt wsX0_sideUp := goodIn_r _ [32, 33, 34, 35, 4, 36, 37, 7, 38, 117, 118, 119, 120, 121, 122, 123, 124, 82, 83, 84, 85, 86, 87, 88, 89, 90, 91, 92, 93, 94, 95, 96, 97, 98, 99, 100, 101, 102, 103, 104, 105, 106, 107, 108, 109, 110, 111, 112, 113, 114, 115, 116] (by decide +kernel) (by decide +kernel)
set_option maxRecDepth 20000 in
theorem gX11_sideAt_X0_sideUp_u142X0 : GoodIn wsX11_sideAt (va_wsO RX11 142 RX0 "HeadsByHair$Throw" ⟨"HeadsByHair$Throw", "sideUp", "(LHeadsByHair$Flight;I)I"⟩ yX0_sideUp wsX0_sideUp) := goodIn_app (goodIn_of _ (by decide +kernel)) ggX11_sideAt_X0_sideUp
set_option maxRecDepth 20000 in
theorem ggX11_sideAt_X1_sideUp : GoodIn wsX11_sideAt wsX1_sideUp := goodIn_r _ [43, 44, 45, 46, 47, 48, 30, 31, 32, 33, 34, 35, 4, 36, 37, 7, 38, 82, 83, 84, 85, 86, 87, 88, 89, 90, 91, 92, 93, 94, 95, 96, 97, 98, 99, 100, 101, 102, 103, 104, 105, 106, 107, 108, 109, 110, 111, 112, 113, 114, 115, 116, 117, 118, 119, 120, 121, 122, 123, 124] (by decide +kernel) (by decide +kernel)
set_option maxRecDepth 20000 in
theorem gX11_sideAt_X1_sideUp_u142X1 : GoodIn wsX11_sideAt (va_wsO RX11 142 RX1 "HeadsByHair$Throw" ⟨"HeadsByHair$Throw", "sideUp", "(LHeadsByHair$Flight;I)I"⟩ yX1_sideUp wsX1_sideUp) := goodIn_app (goodIn_of _ (by decide +kernel)) ggX11_sideAt_X1_sideUp
set_option maxRecDepth 20000 in
theorem ggX11_sideAt_X4_sideUp : GoodIn wsX11_sideAt wsX4_sideUp := goodIn_r _ [52, 53, 54, 55, 56, 57, 58, 59, 60, 117, 118, 119, 120, 121, 122, 123, 124, 82, 83, 84, 85, 86, 87, 88, 89, 90, 91, 92, 93, 94, 95, 96, 97, 98, 99, 100, 101, 102, 103, 104, 105, 106, 107, 108, 109, 110, 111, 112, 113, 114, 115, 116] (by decide +kernel) (by decide +kernel)
set_option maxRecDepth 20000 in
theorem gX11_sideAt_X4_sideUp_u142X4 : GoodIn wsX11_sideAt (va_wsO RX11 142 RX4 "HeadsByHair$Throw" ⟨"HeadsByHair$Throw", "sideUp", "(LHeadsByHair$Flight;I)I"⟩ yX4_sideUp wsX4_sideUp) := goodIn_app (goodIn_of _ (by decide +kernel)) ggX11_sideAt_X4_sideUp
set_option maxRecDepth 20000 in
theorem ggX11_sideAt_X5_sideUp : GoodIn wsX11_sideAt wsX5_sideUp := goodIn_r _ [64, 65, 66, 117, 118, 119, 120, 121, 122, 123, 124, 82, 83, 84, 85, 86, 87, 88, 89, 90, 91, 92, 93, 94, 95, 96, 97, 98, 99, 100, 101, 102, 103, 104, 105, 106, 107, 108, 109, 110, 111, 112, 113, 114, 115, 116] (by decide +kernel) (by decide +kernel)
set_option maxRecDepth 20000 in
theorem gX11_sideAt_X5_sideUp_u142X5 : GoodIn wsX11_sideAt (va_wsO RX11 142 RX5 "HeadsByHair$Throw" ⟨"HeadsByHair$Throw", "sideUp", "(LHeadsByHair$Flight;I)I"⟩ yX5_sideUp wsX5_sideUp) := goodIn_app (goodIn_of _ (by decide +kernel)) ggX11_sideAt_X5_sideUp
set_option maxRecDepth 20000 in
theorem ggX11_sideAt_X7_sideUp : GoodIn wsX11_sideAt wsX7_sideUp := goodIn_r _ [39] (by decide +kernel) (by decide +kernel)
set_option maxRecDepth 20000 in
theorem gX11_sideAt_X7_sideUp : GoodIn wsX11_sideAt (wsV RX11 142 RX7 yX7_sideUp wsX7_sideUp) := goodIn_app (goodIn_of _ (by decide +kernel)) ggX11_sideAt_X7_sideUp
set_option maxRecDepth 20000 in
theorem ggX11_sideAt_X9_sideUp : GoodIn wsX11_sideAt wsX9_sideUp := goodIn_r _ [74, 117, 118, 119, 120, 121, 122, 123, 124] (by decide +kernel) (by decide +kernel)
set_option maxRecDepth 20000 in
theorem gX11_sideAt_X9_sideUp_u142X9 : GoodIn wsX11_sideAt (va_wsO RX11 142 RX9 "HeadsByHair$Throw" ⟨"HeadsByHair$Throw", "sideUp", "(LHeadsByHair$Flight;I)I"⟩ yX9_sideUp wsX9_sideUp) := goodIn_app (goodIn_of _ (by decide +kernel)) ggX11_sideAt_X9_sideUp
set_option maxRecDepth 20000 in
theorem ggX11_sideAt_X10_sideUp : GoodIn wsX11_sideAt wsX10_sideUp := goodIn_r _ [60, 117, 118, 119, 120, 121, 122, 123, 124] (by decide +kernel) (by decide +kernel)
set_option maxRecDepth 20000 in
theorem gX11_sideAt_X10_sideUp_u142X10 : GoodIn wsX11_sideAt (va_wsO RX11 142 RX10 "HeadsByHair$Throw" ⟨"HeadsByHair$Throw", "sideUp", "(LHeadsByHair$Flight;I)I"⟩ yX10_sideUp wsX10_sideUp) := goodIn_app (goodIn_of _ (by decide +kernel)) ggX11_sideAt_X10_sideUp
theorem dX11_sideAt_0 : decode cX11_sideAt 0 = .ok (.iconst 0, 1) := by decide +kernel
theorem dX11_sideAt_1 : decode cX11_sideAt 1 = .ok (.istore 4, 2) := by decide +kernel
theorem dX11_sideAt_3 : decode cX11_sideAt 3 = .ok (.iload 4, 2) := by decide +kernel
theorem dX11_sideAt_5 : decode cX11_sideAt 5 = .ok (.iload_n 2, 1) := by decide +kernel
theorem dX11_sideAt_6 : decode cX11_sideAt 6 = .ok (.if_icmp .ge 20, 3) := by decide +kernel
theorem dX11_sideAt_9 : decode cX11_sideAt 9 = .ok (.aload_n 0, 1) := by decide +kernel
theorem dX11_sideAt_10 : decode cX11_sideAt 10 = .ok (.getfield 31, 3) := by decide +kernel
theorem dX11_sideAt_13 : decode cX11_sideAt 13 = .ok (.aload_n 1, 1) := by decide +kernel
theorem dX11_sideAt_14 : decode cX11_sideAt 14 = .ok (.getfield 135, 3) := by decide +kernel
theorem dX11_sideAt_17 : decode cX11_sideAt 17 = .ok (.invokevirtual 138, 3) := by decide +kernel
theorem dX11_sideAt_20 : decode cX11_sideAt 20 = .ok (.iinc 4 1, 3) := by decide +kernel
theorem dX11_sideAt_23 : decode cX11_sideAt 23 = .ok (.goto (-20), 3) := by decide +kernel
theorem dX11_sideAt_26 : decode cX11_sideAt 26 = .ok (.aload_n 1, 1) := by decide +kernel
theorem dX11_sideAt_27 : decode cX11_sideAt 27 = .ok (.aload_n 0, 1) := by decide +kernel
theorem dX11_sideAt_28 : decode cX11_sideAt 28 = .ok (.getfield 31, 3) := by decide +kernel
theorem dX11_sideAt_31 : decode cX11_sideAt 31 = .ok (.iload_n 3, 1) := by decide +kernel
theorem dX11_sideAt_32 : decode cX11_sideAt 32 = .ok (.invokevirtual 142, 3) := by decide +kernel
theorem dX11_sideAt_35 : decode cX11_sideAt 35 = .ok (.ireturn, 1) := by decide +kernel
set_option maxRecDepth 20000 in
theorem ggX11_comes_X11_begin : GoodIn wsX11_comes wsX11_begin := goodIn_r _ [6, 1, 7, 8, 87, 88, 89, 90, 91, 92, 93, 94, 95, 96, 97, 98, 99, 100, 101, 102, 103, 104, 105, 106, 107, 108, 109, 110, 111, 112, 113, 114, 115, 116, 117, 118, 119, 120, 121, 122, 123, 124, 125, 126, 127, 128, 129, 130, 131, 132, 133, 134, 135, 136, 137, 138, 139, 140, 141, 142, 143, 144, 145, 146, 147, 148, 149] (by decide +kernel) (by decide +kernel)
set_option maxRecDepth 20000 in
theorem gX11_comes_X11_begin : GoodIn wsX11_comes (wsV RX11 128 RX11 yX11_begin wsX11_begin) := goodIn_app (goodIn_of _ (by decide +kernel)) ggX11_comes_X11_begin
set_option maxRecDepth 20000 in
theorem ggX11_comes_X11_sideAt : GoodIn wsX11_comes wsX11_sideAt := goodIn_r _ [12, 1, 13, 14, 15, 16, 17, 18, 19, 20, 21, 22, 23, 24, 25, 26, 27, 28, 29, 30, 31, 32, 33, 34, 35, 36, 37, 38, 39, 40, 41, 42, 43, 44, 45, 46, 47, 48, 49, 50, 51, 52, 53, 54, 55, 56, 57, 58, 59, 60, 61, 62, 63, 64, 65, 66, 67, 68, 69, 70, 71, 72, 73, 74, 75, 76, 77, 78, 79, 80, 81, 82, 83, 84, 85, 86, 87, 88, 89, 90, 91, 92, 115, 116, 117, 118, 119, 120, 121, 122, 123, 124, 125, 126, 127, 128, 129, 130, 131, 132, 133, 134, 135, 136, 137, 138, 139, 140, 141, 142, 143, 144, 145, 146, 147, 148, 149, 93, 94, 95, 96, 97, 98, 99, 100] (by decide +kernel) (by decide +kernel)
set_option maxRecDepth 20000 in
theorem gX11_comes_X11_sideAt : GoodIn wsX11_comes (wsV RX11 149 RX11 yX11_sideAt wsX11_sideAt) := goodIn_app (goodIn_of _ (by decide +kernel)) ggX11_comes_X11_sideAt
theorem dX11_comes_0 : decode cX11_comes 0 = .ok (.aload_n 0, 1) := by decide +kernel
theorem dX11_comes_1 : decode cX11_comes 1 = .ok (.aload_n 1, 1) := by decide +kernel
theorem dX11_comes_2 : decode cX11_comes 2 = .ok (.iload_n 2, 1) := by decide +kernel
theorem dX11_comes_3 : decode cX11_comes 3 = .ok (.iload_n 3, 1) := by decide +kernel
theorem dX11_comes_4 : decode cX11_comes 4 = .ok (.iload 4, 2) := by decide +kernel
theorem dX11_comes_6 : decode cX11_comes 6 = .ok (.invokevirtual 128, 3) := by decide +kernel
theorem dX11_comes_9 : decode cX11_comes 9 = .ok (.aload_n 0, 1) := by decide +kernel
theorem dX11_comes_10 : decode cX11_comes 10 = .ok (.aload_n 1, 1) := by decide +kernel
theorem dX11_comes_11 : decode cX11_comes 11 = .ok (.aload_n 0, 1) := by decide +kernel
theorem dX11_comes_12 : decode cX11_comes 12 = .ok (.getfield 31, 3) := by decide +kernel
theorem dX11_comes_15 : decode cX11_comes 15 = .ok (.getfield 132, 3) := by decide +kernel
theorem dX11_comes_18 : decode cX11_comes 18 = .ok (.iload 5, 2) := by decide +kernel
theorem dX11_comes_20 : decode cX11_comes 20 = .ok (.invokevirtual 149, 3) := by decide +kernel
theorem dX11_comes_23 : decode cX11_comes 23 = .ok (.ireturn, 1) := by decide +kernel
set_option maxRecDepth 20000 in
theorem ggX11_timesHeads_X11_comes : GoodIn wsX11_timesHeads wsX11_comes := goodIn_r _ [10, 11, 12, 13, 14, 9, 15, 1, 16, 17, 18, 19, 20, 21, 22, 23, 24, 25, 26, 27, 28, 29, 4, 30, 31, 32, 33, 34, 35, 36, 37, 38, 39, 40, 41, 42, 43, 44, 45, 46, 47, 48, 49, 50, 51, 52, 53, 54, 55, 56, 57, 58, 59, 60, 61, 62, 63, 64, 65, 66, 67, 68, 69, 70, 71, 72, 73, 74, 75, 76, 77, 78, 79, 80, 81, 82, 83, 84, 85, 86, 87, 88, 89, 90, 91, 92, 93, 94, 95, 96, 97, 98, 99, 114, 115, 116, 117, 118, 119, 120, 121, 100, 101, 102, 103, 104, 105, 106, 107, 108, 109, 110, 111, 112, 113, 122, 123, 124, 125, 126, 127, 128, 129, 130, 131, 132, 133, 134, 135, 136, 137, 138, 139, 140, 141, 142, 143, 144, 145, 146, 147, 148, 149, 150, 151, 152, 153, 154, 155, 156] (by decide +kernel) (by decide +kernel)
set_option maxRecDepth 20000 in
theorem gX11_timesHeads_X11_comes : GoodIn wsX11_timesHeads (wsV RX11 174 RX11 yX11_comes wsX11_comes) := goodIn_app (goodIn_of _ (by decide +kernel)) ggX11_timesHeads_X11_comes
theorem dX11_timesHeads_0 : decode cX11_timesHeads 0 = .ok (.aload_n 0, 1) := by decide +kernel
theorem dX11_timesHeads_1 : decode cX11_timesHeads 1 = .ok (.getfield 12, 3) := by decide +kernel
theorem dX11_timesHeads_4 : decode cX11_timesHeads 4 = .ok (.getfield 60, 3) := by decide +kernel
theorem dX11_timesHeads_7 : decode cX11_timesHeads 7 = .ok (.iload_n 2, 1) := by decide +kernel
theorem dX11_timesHeads_8 : decode cX11_timesHeads 8 = .ok (.iaload, 1) := by decide +kernel
theorem dX11_timesHeads_9 : decode cX11_timesHeads 9 = .ok (.istore 5, 2) := by decide +kernel
theorem dX11_timesHeads_11 : decode cX11_timesHeads 11 = .ok (.aload_n 0, 1) := by decide +kernel
theorem dX11_timesHeads_12 : decode cX11_timesHeads 12 = .ok (.getfield 12, 3) := by decide +kernel
theorem dX11_timesHeads_15 : decode cX11_timesHeads 15 = .ok (.getfield 63, 3) := by decide +kernel
theorem dX11_timesHeads_18 : decode cX11_timesHeads 18 = .ok (.iload_n 2, 1) := by decide +kernel
theorem dX11_timesHeads_19 : decode cX11_timesHeads 19 = .ok (.iaload, 1) := by decide +kernel
theorem dX11_timesHeads_20 : decode cX11_timesHeads 20 = .ok (.istore 6, 2) := by decide +kernel
theorem dX11_timesHeads_22 : decode cX11_timesHeads 22 = .ok (.iconst 0, 1) := by decide +kernel
theorem dX11_timesHeads_23 : decode cX11_timesHeads 23 = .ok (.istore 7, 2) := by decide +kernel
theorem dX11_timesHeads_25 : decode cX11_timesHeads 25 = .ok (.iload 6, 2) := by decide +kernel
theorem dX11_timesHeads_27 : decode cX11_timesHeads 27 = .ok (.ineg, 1) := by decide +kernel
theorem dX11_timesHeads_28 : decode cX11_timesHeads 28 = .ok (.istore 8, 2) := by decide +kernel
theorem dX11_timesHeads_30 : decode cX11_timesHeads 30 = .ok (.iload 8, 2) := by decide +kernel
theorem dX11_timesHeads_32 : decode cX11_timesHeads 32 = .ok (.iload 6, 2) := by decide +kernel
theorem dX11_timesHeads_34 : decode cX11_timesHeads 34 = .ok (.if_icmp .gt 34, 3) := by decide +kernel
theorem dX11_timesHeads_37 : decode cX11_timesHeads 37 = .ok (.aload_n 0, 1) := by decide +kernel
theorem dX11_timesHeads_38 : decode cX11_timesHeads 38 = .ok (.aload_n 1, 1) := by decide +kernel
theorem dX11_timesHeads_39 : decode cX11_timesHeads 39 = .ok (.iload_n 2, 1) := by decide +kernel
theorem dX11_timesHeads_40 : decode cX11_timesHeads 40 = .ok (.iload_n 3, 1) := by decide +kernel
theorem dX11_timesHeads_41 : decode cX11_timesHeads 41 = .ok (.iconst 1, 1) := by decide +kernel
theorem dX11_timesHeads_42 : decode cX11_timesHeads 42 = .ok (.iload 5, 2) := by decide +kernel
theorem dX11_timesHeads_44 : decode cX11_timesHeads 44 = .ok (.iload 8, 2) := by decide +kernel
theorem dX11_timesHeads_46 : decode cX11_timesHeads 46 = .ok (.iadd, 1) := by decide +kernel
theorem dX11_timesHeads_47 : decode cX11_timesHeads 47 = .ok (.invokestatic 184, 3) := by decide +kernel
theorem dX11_timesHeads_50 : decode cX11_timesHeads 50 = .ok (.iload 4, 2) := by decide +kernel
theorem dX11_timesHeads_52 : decode cX11_timesHeads 52 = .ok (.invokevirtual 174, 3) := by decide +kernel
theorem dX11_timesHeads_55 : decode cX11_timesHeads 55 = .ok (.iconst 1, 1) := by decide +kernel
theorem dX11_timesHeads_56 : decode cX11_timesHeads 56 = .ok (.if_icmp .ne 6, 3) := by decide +kernel
theorem dX11_timesHeads_59 : decode cX11_timesHeads 59 = .ok (.iinc 7 1, 3) := by decide +kernel
theorem dX11_timesHeads_62 : decode cX11_timesHeads 62 = .ok (.iinc 8 1, 3) := by decide +kernel
theorem dX11_timesHeads_65 : decode cX11_timesHeads 65 = .ok (.goto (-35), 3) := by decide +kernel
theorem dX11_timesHeads_68 : decode cX11_timesHeads 68 = .ok (.iload 7, 2) := by decide +kernel
theorem dX11_timesHeads_70 : decode cX11_timesHeads 70 = .ok (.ireturn, 1) := by decide +kernel
set_option maxRecDepth 20000 in
theorem ggX11_leaning_X6_allThrown : GoodIn wsX11_leaning wsX6_allThrown := goodIn_r _ [5, 6, 7, 8, 9, 3, 10, 11, 22, 23, 24, 25, 26, 27, 28, 29, 30, 31, 32, 33, 34, 35] (by decide +kernel) (by decide +kernel)
set_option maxRecDepth 20000 in
theorem gX11_leaning_X6_allThrown_n74 : GoodIn wsX11_leaning (wsX6_allThrown) := ggX11_leaning_X6_allThrown
set_option maxRecDepth 20000 in
theorem ggX11_leaning_X6_allAlike : GoodIn wsX11_leaning wsX6_allAlike := goodIn_r _ [14, 15, 7, 8, 9, 3, 10, 11, 22, 23, 24, 25, 26, 27, 28, 29, 30, 31, 32, 33, 34, 35] (by decide +kernel) (by decide +kernel)
set_option maxRecDepth 20000 in
theorem gX11_leaning_X6_allAlike_n77 : GoodIn wsX11_leaning (wsX6_allAlike) := ggX11_leaning_X6_allAlike
theorem dX11_leaning_0 : decode cX11_leaning 0 = .ok (.aload_n 0, 1) := by decide +kernel
theorem dX11_leaning_1 : decode cX11_leaning 1 = .ok (.getfield 12, 3) := by decide +kernel
theorem dX11_leaning_4 : decode cX11_leaning 4 = .ok (.iload_n 1, 1) := by decide +kernel
theorem dX11_leaning_5 : decode cX11_leaning 5 = .ok (.invokevirtual 74, 3) := by decide +kernel
theorem dX11_leaning_8 : decode cX11_leaning 8 = .ok (.istore_n 2, 1) := by decide +kernel
theorem dX11_leaning_9 : decode cX11_leaning 9 = .ok (.iload_n 2, 1) := by decide +kernel
theorem dX11_leaning_10 : decode cX11_leaning 10 = .ok (.ifCond .ne 8, 3) := by decide +kernel
theorem dX11_leaning_13 : decode cX11_leaning 13 = .ok (.bipush (-5), 2) := by decide +kernel
theorem dX11_leaning_15 : decode cX11_leaning 15 = .ok (.goto 17, 3) := by decide +kernel
theorem dX11_leaning_18 : decode cX11_leaning 18 = .ok (.sipush 1000, 3) := by decide +kernel
theorem dX11_leaning_21 : decode cX11_leaning 21 = .ok (.aload_n 0, 1) := by decide +kernel
theorem dX11_leaning_22 : decode cX11_leaning 22 = .ok (.getfield 12, 3) := by decide +kernel
theorem dX11_leaning_25 : decode cX11_leaning 25 = .ok (.iload_n 1, 1) := by decide +kernel
theorem dX11_leaning_26 : decode cX11_leaning 26 = .ok (.invokevirtual 77, 3) := by decide +kernel
theorem dX11_leaning_29 : decode cX11_leaning 29 = .ok (.imul, 1) := by decide +kernel
theorem dX11_leaning_30 : decode cX11_leaning 30 = .ok (.iload_n 2, 1) := by decide +kernel
theorem dX11_leaning_31 : decode cX11_leaning 31 = .ok (.idiv, 1) := by decide +kernel
theorem dX11_leaning_32 : decode cX11_leaning 32 = .ok (.ireturn, 1) := by decide +kernel
theorem dX11_stretches_0 : decode cX11_stretches 0 = .ok (.aload_n 0, 1) := by decide +kernel
theorem dX11_stretches_1 : decode cX11_stretches 1 = .ok (.getfield 12, 3) := by decide +kernel
theorem dX11_stretches_4 : decode cX11_stretches 4 = .ok (.getfield 202, 3) := by decide +kernel
theorem dX11_stretches_7 : decode cX11_stretches 7 = .ok (.ifCond .ne 7, 3) := by decide +kernel
theorem dX11_stretches_10 : decode cX11_stretches 10 = .ok (.iconst 0, 1) := by decide +kernel
theorem dX11_stretches_11 : decode cX11_stretches 11 = .ok (.goto 4, 3) := by decide +kernel
theorem dX11_stretches_14 : decode cX11_stretches 14 = .ok (.iconst 1, 1) := by decide +kernel
theorem dX11_stretches_15 : decode cX11_stretches 15 = .ok (.istore_n 1, 1) := by decide +kernel
theorem dX11_stretches_16 : decode cX11_stretches 16 = .ok (.iconst 1, 1) := by decide +kernel
theorem dX11_stretches_17 : decode cX11_stretches 17 = .ok (.istore_n 2, 1) := by decide +kernel
theorem dX11_stretches_18 : decode cX11_stretches 18 = .ok (.iload_n 2, 1) := by decide +kernel
theorem dX11_stretches_19 : decode cX11_stretches 19 = .ok (.aload_n 0, 1) := by decide +kernel
theorem dX11_stretches_20 : decode cX11_stretches 20 = .ok (.getfield 12, 3) := by decide +kernel
theorem dX11_stretches_23 : decode cX11_stretches 23 = .ok (.getfield 202, 3) := by decide +kernel
theorem dX11_stretches_26 : decode cX11_stretches 26 = .ok (.if_icmp .ge 35, 3) := by decide +kernel
theorem dX11_stretches_29 : decode cX11_stretches 29 = .ok (.aload_n 0, 1) := by decide +kernel
theorem dX11_stretches_30 : decode cX11_stretches 30 = .ok (.getfield 12, 3) := by decide +kernel
theorem dX11_stretches_33 : decode cX11_stretches 33 = .ok (.getfield 205, 3) := by decide +kernel
theorem dX11_stretches_36 : decode cX11_stretches 36 = .ok (.iload_n 2, 1) := by decide +kernel
theorem dX11_stretches_37 : decode cX11_stretches 37 = .ok (.iaload, 1) := by decide +kernel
theorem dX11_stretches_38 : decode cX11_stretches 38 = .ok (.aload_n 0, 1) := by decide +kernel
theorem dX11_stretches_39 : decode cX11_stretches 39 = .ok (.getfield 12, 3) := by decide +kernel
theorem dX11_stretches_42 : decode cX11_stretches 42 = .ok (.getfield 205, 3) := by decide +kernel
theorem dX11_stretches_45 : decode cX11_stretches 45 = .ok (.iload_n 2, 1) := by decide +kernel
theorem dX11_stretches_46 : decode cX11_stretches 46 = .ok (.iconst 1, 1) := by decide +kernel
theorem dX11_stretches_47 : decode cX11_stretches 47 = .ok (.isub, 1) := by decide +kernel
theorem dX11_stretches_48 : decode cX11_stretches 48 = .ok (.iaload, 1) := by decide +kernel
theorem dX11_stretches_49 : decode cX11_stretches 49 = .ok (.if_icmp .eq 6, 3) := by decide +kernel
theorem dX11_stretches_52 : decode cX11_stretches 52 = .ok (.iinc 1 1, 3) := by decide +kernel
theorem dX11_stretches_55 : decode cX11_stretches 55 = .ok (.iinc 2 1, 3) := by decide +kernel
theorem dX11_stretches_58 : decode cX11_stretches 58 = .ok (.goto (-40), 3) := by decide +kernel
theorem dX11_stretches_61 : decode cX11_stretches 61 = .ok (.iload_n 1, 1) := by decide +kernel
theorem dX11_stretches_62 : decode cX11_stretches 62 = .ok (.ireturn, 1) := by decide +kernel
theorem dX11_longestStretch_0 : decode cX11_longestStretch 0 = .ok (.iconst 0, 1) := by decide +kernel
theorem dX11_longestStretch_1 : decode cX11_longestStretch 1 = .ok (.istore_n 1, 1) := by decide +kernel
theorem dX11_longestStretch_2 : decode cX11_longestStretch 2 = .ok (.iconst 0, 1) := by decide +kernel
theorem dX11_longestStretch_3 : decode cX11_longestStretch 3 = .ok (.istore_n 2, 1) := by decide +kernel
theorem dX11_longestStretch_4 : decode cX11_longestStretch 4 = .ok (.iconst 0, 1) := by decide +kernel
theorem dX11_longestStretch_5 : decode cX11_longestStretch 5 = .ok (.istore_n 3, 1) := by decide +kernel
theorem dX11_longestStretch_6 : decode cX11_longestStretch 6 = .ok (.iload_n 3, 1) := by decide +kernel
theorem dX11_longestStretch_7 : decode cX11_longestStretch 7 = .ok (.aload_n 0, 1) := by decide +kernel
theorem dX11_longestStretch_8 : decode cX11_longestStretch 8 = .ok (.getfield 12, 3) := by decide +kernel
theorem dX11_longestStretch_11 : decode cX11_longestStretch 11 = .ok (.getfield 202, 3) := by decide +kernel
theorem dX11_longestStretch_14 : decode cX11_longestStretch 14 = .ok (.if_icmp .ge 50, 3) := by decide +kernel
theorem dX11_longestStretch_17 : decode cX11_longestStretch 17 = .ok (.iload_n 3, 1) := by decide +kernel
theorem dX11_longestStretch_18 : decode cX11_longestStretch 18 = .ok (.ifCond .le 32, 3) := by decide +kernel
theorem dX11_longestStretch_21 : decode cX11_longestStretch 21 = .ok (.aload_n 0, 1) := by decide +kernel
theorem dX11_longestStretch_22 : decode cX11_longestStretch 22 = .ok (.getfield 12, 3) := by decide +kernel
theorem dX11_longestStretch_25 : decode cX11_longestStretch 25 = .ok (.getfield 205, 3) := by decide +kernel
theorem dX11_longestStretch_28 : decode cX11_longestStretch 28 = .ok (.iload_n 3, 1) := by decide +kernel
theorem dX11_longestStretch_29 : decode cX11_longestStretch 29 = .ok (.iaload, 1) := by decide +kernel
theorem dX11_longestStretch_30 : decode cX11_longestStretch 30 = .ok (.aload_n 0, 1) := by decide +kernel
theorem dX11_longestStretch_31 : decode cX11_longestStretch 31 = .ok (.getfield 12, 3) := by decide +kernel
theorem dX11_longestStretch_34 : decode cX11_longestStretch 34 = .ok (.getfield 205, 3) := by decide +kernel
theorem dX11_longestStretch_37 : decode cX11_longestStretch 37 = .ok (.iload_n 3, 1) := by decide +kernel
theorem dX11_longestStretch_38 : decode cX11_longestStretch 38 = .ok (.iconst 1, 1) := by decide +kernel
theorem dX11_longestStretch_39 : decode cX11_longestStretch 39 = .ok (.isub, 1) := by decide +kernel
theorem dX11_longestStretch_40 : decode cX11_longestStretch 40 = .ok (.iaload, 1) := by decide +kernel
theorem dX11_longestStretch_41 : decode cX11_longestStretch 41 = .ok (.if_icmp .ne 9, 3) := by decide +kernel
theorem dX11_longestStretch_44 : decode cX11_longestStretch 44 = .ok (.iload_n 2, 1) := by decide +kernel
theorem dX11_longestStretch_45 : decode cX11_longestStretch 45 = .ok (.iconst 1, 1) := by decide +kernel
theorem dX11_longestStretch_46 : decode cX11_longestStretch 46 = .ok (.iadd, 1) := by decide +kernel
theorem dX11_longestStretch_47 : decode cX11_longestStretch 47 = .ok (.goto 4, 3) := by decide +kernel
theorem dX11_longestStretch_50 : decode cX11_longestStretch 50 = .ok (.iconst 1, 1) := by decide +kernel
theorem dX11_longestStretch_51 : decode cX11_longestStretch 51 = .ok (.istore_n 2, 1) := by decide +kernel
theorem dX11_longestStretch_52 : decode cX11_longestStretch 52 = .ok (.iload_n 1, 1) := by decide +kernel
theorem dX11_longestStretch_53 : decode cX11_longestStretch 53 = .ok (.iload_n 2, 1) := by decide +kernel
theorem dX11_longestStretch_54 : decode cX11_longestStretch 54 = .ok (.invokestatic 184, 3) := by decide +kernel
theorem dX11_longestStretch_57 : decode cX11_longestStretch 57 = .ok (.istore_n 1, 1) := by decide +kernel
theorem dX11_longestStretch_58 : decode cX11_longestStretch 58 = .ok (.iinc 3 1, 3) := by decide +kernel
theorem dX11_longestStretch_61 : decode cX11_longestStretch 61 = .ok (.goto (-55), 3) := by decide +kernel
theorem dX11_longestStretch_64 : decode cX11_longestStretch 64 = .ok (.iload_n 1, 1) := by decide +kernel
theorem dX11_longestStretch_65 : decode cX11_longestStretch 65 = .ok (.ireturn, 1) := by decide +kernel
theorem dX11_choices_0 : decode cX11_choices 0 = .ok (.lconst 1, 1) := by decide +kernel
theorem dX11_choices_1 : decode cX11_choices 1 = .ok (.lstore_n 2, 1) := by decide +kernel
theorem dX11_choices_2 : decode cX11_choices 2 = .ok (.iconst 1, 1) := by decide +kernel
theorem dX11_choices_3 : decode cX11_choices 3 = .ok (.istore 4, 2) := by decide +kernel
theorem dX11_choices_5 : decode cX11_choices 5 = .ok (.iload 4, 2) := by decide +kernel
theorem dX11_choices_7 : decode cX11_choices 7 = .ok (.iload_n 1, 1) := by decide +kernel
theorem dX11_choices_8 : decode cX11_choices 8 = .ok (.if_icmp .gt 23, 3) := by decide +kernel
theorem dX11_choices_11 : decode cX11_choices 11 = .ok (.lload_n 2, 1) := by decide +kernel
theorem dX11_choices_12 : decode cX11_choices 12 = .ok (.iload_n 0, 1) := by decide +kernel
theorem dX11_choices_13 : decode cX11_choices 13 = .ok (.iload 4, 2) := by decide +kernel
theorem dX11_choices_15 : decode cX11_choices 15 = .ok (.isub, 1) := by decide +kernel
theorem dX11_choices_16 : decode cX11_choices 16 = .ok (.iconst 1, 1) := by decide +kernel
theorem dX11_choices_17 : decode cX11_choices 17 = .ok (.iadd, 1) := by decide +kernel
theorem dX11_choices_18 : decode cX11_choices 18 = .ok (.i2l, 1) := by decide +kernel
theorem dX11_choices_19 : decode cX11_choices 19 = .ok (.lmul, 1) := by decide +kernel
theorem dX11_choices_20 : decode cX11_choices 20 = .ok (.iload 4, 2) := by decide +kernel
theorem dX11_choices_22 : decode cX11_choices 22 = .ok (.i2l, 1) := by decide +kernel
theorem dX11_choices_23 : decode cX11_choices 23 = .ok (.ldiv, 1) := by decide +kernel
theorem dX11_choices_24 : decode cX11_choices 24 = .ok (.lstore_n 2, 1) := by decide +kernel
theorem dX11_choices_25 : decode cX11_choices 25 = .ok (.iinc 4 1, 3) := by decide +kernel
theorem dX11_choices_28 : decode cX11_choices 28 = .ok (.goto (-23), 3) := by decide +kernel
theorem dX11_choices_31 : decode cX11_choices 31 = .ok (.lload_n 2, 1) := by decide +kernel
theorem dX11_choices_32 : decode cX11_choices 32 = .ok (.lreturn, 1) := by decide +kernel
set_option maxRecDepth 20000 in
theorem ggX11_choicesBetween_X11_choices : GoodIn wsX11_choicesBetween wsX11_choices := goodIn_r _ [4] (by decide +kernel) (by decide +kernel)
set_option maxRecDepth 20000 in
theorem gX11_choicesBetween_X11_choices : GoodIn wsX11_choicesBetween (va_wsS RX11 187 yX11_choices wsX11_choices) := goodIn_app (goodIn_of _ (by decide +kernel)) ggX11_choicesBetween_X11_choices
theorem dX11_choicesBetween_0 : decode cX11_choicesBetween 0 = .ok (.lconst 0, 1) := by decide +kernel
theorem dX11_choicesBetween_1 : decode cX11_choicesBetween 1 = .ok (.lstore_n 3, 1) := by decide +kernel
theorem dX11_choicesBetween_2 : decode cX11_choicesBetween 2 = .ok (.iload_n 1, 1) := by decide +kernel
theorem dX11_choicesBetween_3 : decode cX11_choicesBetween 3 = .ok (.istore 5, 2) := by decide +kernel
theorem dX11_choicesBetween_5 : decode cX11_choicesBetween 5 = .ok (.iload 5, 2) := by decide +kernel
theorem dX11_choicesBetween_7 : decode cX11_choicesBetween 7 = .ok (.iload_n 2, 1) := by decide +kernel
theorem dX11_choicesBetween_8 : decode cX11_choicesBetween 8 = .ok (.if_icmp .gt 18, 3) := by decide +kernel
theorem dX11_choicesBetween_11 : decode cX11_choicesBetween 11 = .ok (.lload_n 3, 1) := by decide +kernel
theorem dX11_choicesBetween_12 : decode cX11_choicesBetween 12 = .ok (.iload_n 0, 1) := by decide +kernel
theorem dX11_choicesBetween_13 : decode cX11_choicesBetween 13 = .ok (.iload 5, 2) := by decide +kernel
theorem dX11_choicesBetween_15 : decode cX11_choicesBetween 15 = .ok (.invokestatic 187, 3) := by decide +kernel
theorem dX11_choicesBetween_18 : decode cX11_choicesBetween 18 = .ok (.ladd, 1) := by decide +kernel
theorem dX11_choicesBetween_19 : decode cX11_choicesBetween 19 = .ok (.lstore_n 3, 1) := by decide +kernel
theorem dX11_choicesBetween_20 : decode cX11_choicesBetween 20 = .ok (.iinc 5 1, 3) := by decide +kernel
theorem dX11_choicesBetween_23 : decode cX11_choicesBetween 23 = .ok (.goto (-18), 3) := by decide +kernel
theorem dX11_choicesBetween_26 : decode cX11_choicesBetween 26 = .ok (.lload_n 3, 1) := by decide +kernel
theorem dX11_choicesBetween_27 : decode cX11_choicesBetween 27 = .ok (.lreturn, 1) := by decide +kernel
theorem dX11_power_0 : decode cX11_power 0 = .ok (.lconst 1, 1) := by decide +kernel
theorem dX11_power_1 : decode cX11_power 1 = .ok (.lstore_n 3, 1) := by decide +kernel
theorem dX11_power_2 : decode cX11_power 2 = .ok (.iconst 0, 1) := by decide +kernel
theorem dX11_power_3 : decode cX11_power 3 = .ok (.istore 5, 2) := by decide +kernel
theorem dX11_power_5 : decode cX11_power 5 = .ok (.iload 5, 2) := by decide +kernel
theorem dX11_power_7 : decode cX11_power 7 = .ok (.iload_n 2, 1) := by decide +kernel
theorem dX11_power_8 : decode cX11_power 8 = .ok (.if_icmp .ge 13, 3) := by decide +kernel
theorem dX11_power_11 : decode cX11_power 11 = .ok (.lload_n 3, 1) := by decide +kernel
theorem dX11_power_12 : decode cX11_power 12 = .ok (.lload_n 0, 1) := by decide +kernel
theorem dX11_power_13 : decode cX11_power 13 = .ok (.lmul, 1) := by decide +kernel
theorem dX11_power_14 : decode cX11_power 14 = .ok (.lstore_n 3, 1) := by decide +kernel
theorem dX11_power_15 : decode cX11_power 15 = .ok (.iinc 5 1, 3) := by decide +kernel
theorem dX11_power_18 : decode cX11_power 18 = .ok (.goto (-13), 3) := by decide +kernel
theorem dX11_power_21 : decode cX11_power 21 = .ok (.lload_n 3, 1) := by decide +kernel
theorem dX11_power_22 : decode cX11_power 22 = .ok (.lreturn, 1) := by decide +kernel
set_option maxRecDepth 20000 in
theorem ggX11_atLeast_X11_choices : GoodIn wsX11_atLeast wsX11_choices := goodIn_r _ [4] (by decide +kernel) (by decide +kernel)
set_option maxRecDepth 20000 in
theorem gX11_atLeast_X11_choices : GoodIn wsX11_atLeast (va_wsS RX11 187 yX11_choices wsX11_choices) := goodIn_app (goodIn_of _ (by decide +kernel)) ggX11_atLeast_X11_choices
set_option maxRecDepth 20000 in
theorem ggX11_atLeast_X11_power : GoodIn wsX11_atLeast wsX11_power := goodIn_r _ [7] (by decide +kernel) (by decide +kernel)
set_option maxRecDepth 20000 in
theorem gX11_atLeast_X11_power : GoodIn wsX11_atLeast (va_wsS RX11 195 yX11_power wsX11_power) := goodIn_app (goodIn_of _ (by decide +kernel)) ggX11_atLeast_X11_power
theorem dX11_atLeast_0 : decode cX11_atLeast 0 = .ok (.lconst 0, 1) := by decide +kernel
theorem dX11_atLeast_1 : decode cX11_atLeast 1 = .ok (.lstore_n 3, 1) := by decide +kernel
theorem dX11_atLeast_2 : decode cX11_atLeast 2 = .ok (.iload_n 1, 1) := by decide +kernel
theorem dX11_atLeast_3 : decode cX11_atLeast 3 = .ok (.istore 5, 2) := by decide +kernel
theorem dX11_atLeast_5 : decode cX11_atLeast 5 = .ok (.iload 5, 2) := by decide +kernel
theorem dX11_atLeast_7 : decode cX11_atLeast 7 = .ok (.iload_n 0, 1) := by decide +kernel
theorem dX11_atLeast_8 : decode cX11_atLeast 8 = .ok (.if_icmp .gt 39, 3) := by decide +kernel
theorem dX11_atLeast_11 : decode cX11_atLeast 11 = .ok (.lload_n 3, 1) := by decide +kernel
theorem dX11_atLeast_12 : decode cX11_atLeast 12 = .ok (.iload_n 0, 1) := by decide +kernel
theorem dX11_atLeast_13 : decode cX11_atLeast 13 = .ok (.iload 5, 2) := by decide +kernel
theorem dX11_atLeast_15 : decode cX11_atLeast 15 = .ok (.invokestatic 187, 3) := by decide +kernel
theorem dX11_atLeast_18 : decode cX11_atLeast 18 = .ok (.iload_n 2, 1) := by decide +kernel
theorem dX11_atLeast_19 : decode cX11_atLeast 19 = .ok (.i2l, 1) := by decide +kernel
theorem dX11_atLeast_20 : decode cX11_atLeast 20 = .ok (.iload 5, 2) := by decide +kernel
theorem dX11_atLeast_22 : decode cX11_atLeast 22 = .ok (.invokestatic 195, 3) := by decide +kernel
theorem dX11_atLeast_25 : decode cX11_atLeast 25 = .ok (.lmul, 1) := by decide +kernel
theorem dX11_atLeast_26 : decode cX11_atLeast 26 = .ok (.bipush 100, 2) := by decide +kernel
theorem dX11_atLeast_28 : decode cX11_atLeast 28 = .ok (.iload_n 2, 1) := by decide +kernel
theorem dX11_atLeast_29 : decode cX11_atLeast 29 = .ok (.isub, 1) := by decide +kernel
theorem dX11_atLeast_30 : decode cX11_atLeast 30 = .ok (.i2l, 1) := by decide +kernel
theorem dX11_atLeast_31 : decode cX11_atLeast 31 = .ok (.iload_n 0, 1) := by decide +kernel
theorem dX11_atLeast_32 : decode cX11_atLeast 32 = .ok (.iload 5, 2) := by decide +kernel
