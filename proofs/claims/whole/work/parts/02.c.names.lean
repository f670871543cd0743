theorem dX0_init_0 : decode cX0_init 0 = .ok (.aload_n 0, 1) := by decide +kernel
theorem dX0_init_1 : decode cX0_init 1 = .ok (.invokespecial 3, 3) := by decide +kernel
theorem dX0_init_4 : decode cX0_init 4 = .ok (.return_, 1) := by decide +kernel
theorem dX0_becomeDrawn_0 : decode cX0_becomeDrawn 0 = .ok (.iload_n 1, 1) := by decide +kernel
theorem dX0_becomeDrawn_1 : decode cX0_becomeDrawn 1 = .ok (.bipush 48, 2) := by decide +kernel
theorem dX0_becomeDrawn_3 : decode cX0_becomeDrawn 3 = .ok (.idiv, 1) := by decide +kernel
theorem dX0_becomeDrawn_4 : decode cX0_becomeDrawn 4 = .ok (.istore_n 2, 1) := by decide +kernel
theorem dX0_becomeDrawn_5 : decode cX0_becomeDrawn 5 = .ok (.aload_n 0, 1) := by decide +kernel
theorem dX0_becomeDrawn_6 : decode cX0_becomeDrawn 6 = .ok (.iload_n 1, 1) := by decide +kernel
theorem dX0_becomeDrawn_7 : decode cX0_becomeDrawn 7 = .ok (.bipush 6, 2) := by decide +kernel
theorem dX0_becomeDrawn_9 : decode cX0_becomeDrawn 9 = .ok (.irem, 1) := by decide +kernel
theorem dX0_becomeDrawn_10 : decode cX0_becomeDrawn 10 = .ok (.putfield 9, 3) := by decide +kernel
theorem dX0_becomeDrawn_13 : decode cX0_becomeDrawn 13 = .ok (.aload_n 0, 1) := by decide +kernel
theorem dX0_becomeDrawn_14 : decode cX0_becomeDrawn 14 = .ok (.iconst 1, 1) := by decide +kernel
theorem dX0_becomeDrawn_15 : decode cX0_becomeDrawn 15 = .ok (.iload_n 2, 1) := by decide +kernel
theorem dX0_becomeDrawn_16 : decode cX0_becomeDrawn 16 = .ok (.bipush 9, 2) := by decide +kernel
theorem dX0_becomeDrawn_18 : decode cX0_becomeDrawn 18 = .ok (.irem, 1) := by decide +kernel
theorem dX0_becomeDrawn_19 : decode cX0_becomeDrawn 19 = .ok (.iadd, 1) := by decide +kernel
theorem dX0_becomeDrawn_20 : decode cX0_becomeDrawn 20 = .ok (.putfield 15, 3) := by decide +kernel
theorem dX0_becomeDrawn_23 : decode cX0_becomeDrawn 23 = .ok (.iload_n 1, 1) := by decide +kernel
theorem dX0_becomeDrawn_24 : decode cX0_becomeDrawn 24 = .ok (.bipush 6, 2) := by decide +kernel
theorem dX0_becomeDrawn_26 : decode cX0_becomeDrawn 26 = .ok (.idiv, 1) := by decide +kernel
theorem dX0_becomeDrawn_27 : decode cX0_becomeDrawn 27 = .ok (.bipush 8, 2) := by decide +kernel
theorem dX0_becomeDrawn_29 : decode cX0_becomeDrawn 29 = .ok (.irem, 1) := by decide +kernel
theorem dX0_becomeDrawn_30 : decode cX0_becomeDrawn 30 = .ok (.tableswitch 116 0 6 #[42, 51, 71, 80, 89, 98, 107], 42) := by decide +kernel
theorem dX0_becomeDrawn_72 : decode cX0_becomeDrawn 72 = .ok (.aload_n 0, 1) := by decide +kernel
theorem dX0_becomeDrawn_73 : decode cX0_becomeDrawn 73 = .ok (.bipush 40, 2) := by decide +kernel
theorem dX0_becomeDrawn_75 : decode cX0_becomeDrawn 75 = .ok (.putfield 18, 3) := by decide +kernel
theorem dX0_becomeDrawn_78 : decode cX0_becomeDrawn 78 = .ok (.goto 74, 3) := by decide +kernel
theorem dX0_becomeDrawn_81 : decode cX0_becomeDrawn 81 = .ok (.aload_n 0, 1) := by decide +kernel
theorem dX0_becomeDrawn_82 : decode cX0_becomeDrawn 82 = .ok (.iload_n 2, 1) := by decide +kernel
theorem dX0_becomeDrawn_83 : decode cX0_becomeDrawn 83 = .ok (.iconst 4, 1) := by decide +kernel
theorem dX0_becomeDrawn_84 : decode cX0_becomeDrawn 84 = .ok (.irem, 1) := by decide +kernel
theorem dX0_becomeDrawn_85 : decode cX0_becomeDrawn 85 = .ok (.ifCond .ne 8, 3) := by decide +kernel
theorem dX0_becomeDrawn_88 : decode cX0_becomeDrawn 88 = .ok (.bipush 41, 2) := by decide +kernel
theorem dX0_becomeDrawn_90 : decode cX0_becomeDrawn 90 = .ok (.goto 5, 3) := by decide +kernel
theorem dX0_becomeDrawn_93 : decode cX0_becomeDrawn 93 = .ok (.bipush 62, 2) := by decide +kernel
theorem dX0_becomeDrawn_95 : decode cX0_becomeDrawn 95 = .ok (.putfield 18, 3) := by decide +kernel
theorem dX0_becomeDrawn_98 : decode cX0_becomeDrawn 98 = .ok (.goto 54, 3) := by decide +kernel
theorem dX0_becomeDrawn_101 : decode cX0_becomeDrawn 101 = .ok (.aload_n 0, 1) := by decide +kernel
theorem dX0_becomeDrawn_102 : decode cX0_becomeDrawn 102 = .ok (.bipush 60, 2) := by decide +kernel
theorem dX0_becomeDrawn_104 : decode cX0_becomeDrawn 104 = .ok (.putfield 18, 3) := by decide +kernel
theorem dX0_becomeDrawn_107 : decode cX0_becomeDrawn 107 = .ok (.goto 45, 3) := by decide +kernel
theorem dX0_becomeDrawn_110 : decode cX0_becomeDrawn 110 = .ok (.aload_n 0, 1) := by decide +kernel
theorem dX0_becomeDrawn_111 : decode cX0_becomeDrawn 111 = .ok (.bipush 36, 2) := by decide +kernel
theorem dX0_becomeDrawn_113 : decode cX0_becomeDrawn 113 = .ok (.putfield 18, 3) := by decide +kernel
theorem dX0_becomeDrawn_116 : decode cX0_becomeDrawn 116 = .ok (.goto 36, 3) := by decide +kernel
theorem dX0_becomeDrawn_119 : decode cX0_becomeDrawn 119 = .ok (.aload_n 0, 1) := by decide +kernel
theorem dX0_becomeDrawn_120 : decode cX0_becomeDrawn 120 = .ok (.bipush 37, 2) := by decide +kernel
theorem dX0_becomeDrawn_122 : decode cX0_becomeDrawn 122 = .ok (.putfield 18, 3) := by decide +kernel
theorem dX0_becomeDrawn_125 : decode cX0_becomeDrawn 125 = .ok (.goto 27, 3) := by decide +kernel
theorem dX0_becomeDrawn_128 : decode cX0_becomeDrawn 128 = .ok (.aload_n 0, 1) := by decide +kernel
theorem dX0_becomeDrawn_129 : decode cX0_becomeDrawn 129 = .ok (.bipush 104, 2) := by decide +kernel
theorem dX0_becomeDrawn_131 : decode cX0_becomeDrawn 131 = .ok (.putfield 18, 3) := by decide +kernel
theorem dX0_becomeDrawn_134 : decode cX0_becomeDrawn 134 = .ok (.goto 18, 3) := by decide +kernel
theorem dX0_becomeDrawn_137 : decode cX0_becomeDrawn 137 = .ok (.aload_n 0, 1) := by decide +kernel
theorem dX0_becomeDrawn_138 : decode cX0_becomeDrawn 138 = .ok (.bipush 100, 2) := by decide +kernel
theorem dX0_becomeDrawn_140 : decode cX0_becomeDrawn 140 = .ok (.putfield 18, 3) := by decide +kernel
theorem dX0_becomeDrawn_143 : decode cX0_becomeDrawn 143 = .ok (.goto 9, 3) := by decide +kernel
theorem dX0_becomeDrawn_146 : decode cX0_becomeDrawn 146 = .ok (.aload_n 0, 1) := by decide +kernel
theorem dX0_becomeDrawn_147 : decode cX0_becomeDrawn 147 = .ok (.bipush 107, 2) := by decide +kernel
theorem dX0_becomeDrawn_149 : decode cX0_becomeDrawn 149 = .ok (.putfield 18, 3) := by decide +kernel
theorem dX0_becomeDrawn_152 : decode cX0_becomeDrawn 152 = .ok (.return_, 1) := by decide +kernel
set_option maxRecDepth 20000 in
theorem ggX1_init_X5_init : GoodIn wsX1_init wsX5_init := goodIn_r _ [15, 16, 2, 3, 17, 18, 19, 20, 21, 22, 23, 24, 25, 33, 34, 35, 36, 37, 38, 39, 40] (by decide +kernel) (by decide +kernel)
set_option maxRecDepth 20000 in
theorem gX1_init_X5_init : GoodIn wsX1_init (wsX5_init) := ggX1_init_X5_init
set_option maxRecDepth 20000 in
theorem ggX1_init_X3_init : GoodIn wsX1_init wsX3_init := goodIn_r _ [27, 28, 2, 3, 29, 22, 30, 31, 32, 44, 45, 46] (by decide +kernel) (by decide +kernel)
set_option maxRecDepth 20000 in
theorem gX1_init_X3_init_n18 : GoodIn wsX1_init (wsX3_init) := ggX1_init_X3_init
theorem dX1_init_0 : decode cX1_init 0 = .ok (.aload_n 0, 1) := by decide +kernel
theorem dX1_init_1 : decode cX1_init 1 = .ok (.invokespecial 1, 3) := by decide +kernel
theorem dX1_init_4 : decode cX1_init 4 = .ok (.aload_n 0, 1) := by decide +kernel
theorem dX1_init_5 : decode cX1_init 5 = .ok (.new 7, 3) := by decide +kernel
theorem dX1_init_8 : decode cX1_init 8 = .ok (.dup, 1) := by decide +kernel
theorem dX1_init_9 : decode cX1_init 9 = .ok (.invokespecial 9, 3) := by decide +kernel
theorem dX1_init_12 : decode cX1_init 12 = .ok (.putfield 10, 3) := by decide +kernel
theorem dX1_init_15 : decode cX1_init 15 = .ok (.aload_n 0, 1) := by decide +kernel
theorem dX1_init_16 : decode cX1_init 16 = .ok (.new 16, 3) := by decide +kernel
theorem dX1_init_19 : decode cX1_init 19 = .ok (.dup, 1) := by decide +kernel
theorem dX1_init_20 : decode cX1_init 20 = .ok (.invokespecial 18, 3) := by decide +kernel
theorem dX1_init_23 : decode cX1_init 23 = .ok (.putfield 19, 3) := by decide +kernel
theorem dX1_init_26 : decode cX1_init 26 = .ok (.aload_n 0, 1) := by decide +kernel
theorem dX1_init_27 : decode cX1_init 27 = .ok (.iconst 0, 1) := by decide +kernel
theorem dX1_init_28 : decode cX1_init 28 = .ok (.putfield 23, 3) := by decide +kernel
theorem dX1_init_31 : decode cX1_init 31 = .ok (.return_, 1) := by decide +kernel
theorem dX2_init_0 : decode cX2_init 0 = .ok (.aload_n 0, 1) := by decide +kernel
theorem dX2_init_1 : decode cX2_init 1 = .ok (.invokespecial 3, 3) := by decide +kernel
theorem dX2_init_4 : decode cX2_init 4 = .ok (.aload_n 0, 1) := by decide +kernel
theorem dX2_init_5 : decode cX2_init 5 = .ok (.iconst 0, 1) := by decide +kernel
theorem dX2_init_6 : decode cX2_init 6 = .ok (.putfield 9, 3) := by decide +kernel
theorem dX2_init_9 : decode cX2_init 9 = .ok (.aload_n 0, 1) := by decide +kernel
theorem dX2_init_10 : decode cX2_init 10 = .ok (.bipush 60, 2) := by decide +kernel
theorem dX2_init_12 : decode cX2_init 12 = .ok (.newarray .int, 2) := by decide +kernel
theorem dX2_init_14 : decode cX2_init 14 = .ok (.putfield 15, 3) := by decide +kernel
theorem dX2_init_17 : decode cX2_init 17 = .ok (.return_, 1) := by decide +kernel
set_option maxRecDepth 20000 in
theorem ggX2_add_X6_isIn : GoodIn wsX2_add wsX6_isIn := goodIn_r _ [5] (by decide +kernel) (by decide +kernel)
set_option maxRecDepth 20000 in
theorem gX2_add_X6_isIn_n19 : GoodIn wsX2_add (wsX6_isIn) := ggX2_add_X6_isIn
theorem dX2_add_0 : decode cX2_add 0 = .ok (.aload_n 0, 1) := by decide +kernel
theorem dX2_add_1 : decode cX2_add 1 = .ok (.getfield 9, 3) := by decide +kernel
theorem dX2_add_4 : decode cX2_add 4 = .ok (.iconst 0, 1) := by decide +kernel
theorem dX2_add_5 : decode cX2_add 5 = .ok (.bipush 59, 2) := by decide +kernel
theorem dX2_add_7 : decode cX2_add 7 = .ok (.invokestatic 19, 3) := by decide +kernel
theorem dX2_add_10 : decode cX2_add 10 = .ok (.ifCond .ne 5, 3) := by decide +kernel
theorem dX2_add_13 : decode cX2_add 13 = .ok (.iconst 0, 1) := by decide +kernel
theorem dX2_add_14 : decode cX2_add 14 = .ok (.ireturn, 1) := by decide +kernel
theorem dX2_add_15 : decode cX2_add 15 = .ok (.aload_n 0, 1) := by decide +kernel
theorem dX2_add_16 : decode cX2_add 16 = .ok (.getfield 15, 3) := by decide +kernel
theorem dX2_add_19 : decode cX2_add 19 = .ok (.aload_n 0, 1) := by decide +kernel
theorem dX2_add_20 : decode cX2_add 20 = .ok (.getfield 9, 3) := by decide +kernel
theorem dX2_add_23 : decode cX2_add 23 = .ok (.iload_n 1, 1) := by decide +kernel
theorem dX2_add_24 : decode cX2_add 24 = .ok (.iastore, 1) := by decide +kernel
theorem dX2_add_25 : decode cX2_add 25 = .ok (.aload_n 0, 1) := by decide +kernel
theorem dX2_add_26 : decode cX2_add 26 = .ok (.dup, 1) := by decide +kernel
theorem dX2_add_27 : decode cX2_add 27 = .ok (.getfield 9, 3) := by decide +kernel
theorem dX2_add_30 : decode cX2_add 30 = .ok (.iconst 1, 1) := by decide +kernel
theorem dX2_add_31 : decode cX2_add 31 = .ok (.iadd, 1) := by decide +kernel
theorem dX2_add_32 : decode cX2_add 32 = .ok (.putfield 9, 3) := by decide +kernel
theorem dX2_add_35 : decode cX2_add 35 = .ok (.iconst 1, 1) := by decide +kernel
theorem dX2_add_36 : decode cX2_add 36 = .ok (.ireturn, 1) := by decide +kernel
set_option maxRecDepth 20000 in
theorem ggX2_signAt_X6_isIn : GoodIn wsX2_signAt wsX6_isIn := goodIn_r _ [9] (by decide +kernel) (by decide +kernel)
set_option maxRecDepth 20000 in
theorem gX2_signAt_X6_isIn_n19 : GoodIn wsX2_signAt (wsX6_isIn) := ggX2_signAt_X6_isIn
theorem dX2_signAt_0 : decode cX2_signAt 0 = .ok (.iload_n 1, 1) := by decide +kernel
theorem dX2_signAt_1 : decode cX2_signAt 1 = .ok (.iconst 0, 1) := by decide +kernel
theorem dX2_signAt_2 : decode cX2_signAt 2 = .ok (.aload_n 0, 1) := by decide +kernel
theorem dX2_signAt_3 : decode cX2_signAt 3 = .ok (.getfield 9, 3) := by decide +kernel
theorem dX2_signAt_6 : decode cX2_signAt 6 = .ok (.bipush 60, 2) := by decide +kernel
theorem dX2_signAt_8 : decode cX2_signAt 8 = .ok (.invokestatic 23, 3) := by decide +kernel
theorem dX2_signAt_11 : decode cX2_signAt 11 = .ok (.iconst 1, 1) := by decide +kernel
theorem dX2_signAt_12 : decode cX2_signAt 12 = .ok (.isub, 1) := by decide +kernel
theorem dX2_signAt_13 : decode cX2_signAt 13 = .ok (.invokestatic 19, 3) := by decide +kernel
theorem dX2_signAt_16 : decode cX2_signAt 16 = .ok (.ifCond .eq 12, 3) := by decide +kernel
theorem dX2_signAt_19 : decode cX2_signAt 19 = .ok (.aload_n 0, 1) := by decide +kernel
theorem dX2_signAt_20 : decode cX2_signAt 20 = .ok (.getfield 15, 3) := by decide +kernel
theorem dX2_signAt_23 : decode cX2_signAt 23 = .ok (.iload_n 1, 1) := by decide +kernel
theorem dX2_signAt_24 : decode cX2_signAt 24 = .ok (.iaload, 1) := by decide +kernel
theorem dX2_signAt_25 : decode cX2_signAt 25 = .ok (.goto 4, 3) := by decide +kernel
theorem dX2_signAt_28 : decode cX2_signAt 28 = .ok (.iconst 0, 1) := by decide +kernel
theorem dX2_signAt_29 : decode cX2_signAt 29 = .ok (.ireturn, 1) := by decide +kernel
set_option maxRecDepth 20000 in
theorem ggX2_digitAt_X2_signAt : GoodIn wsX2_digitAt wsX2_signAt := goodIn_r _ [5, 6, 7, 8, 9, 10, 11, 12, 13, 14, 15, 16] (by decide +kernel) (by decide +kernel)
set_option maxRecDepth 20000 in
theorem gX2_digitAt_X2_signAt : GoodIn wsX2_digitAt (wsV RX2 29 RX2 yX2_signAt wsX2_signAt) := goodIn_app (goodIn_of _ (by decide +kernel)) ggX2_digitAt_X2_signAt
theorem dX2_digitAt_0 : decode cX2_digitAt 0 = .ok (.aload_n 0, 1) := by decide +kernel
theorem dX2_digitAt_1 : decode cX2_digitAt 1 = .ok (.iload_n 1, 1) := by decide +kernel
theorem dX2_digitAt_2 : decode cX2_digitAt 2 = .ok (.invokevirtual 29, 3) := by decide +kernel
theorem dX2_digitAt_5 : decode cX2_digitAt 5 = .ok (.bipush 48, 2) := by decide +kernel
theorem dX2_digitAt_7 : decode cX2_digitAt 7 = .ok (.isub, 1) := by decide +kernel
theorem dX2_digitAt_8 : decode cX2_digitAt 8 = .ok (.ireturn, 1) := by decide +kernel
set_option maxRecDepth 20000 in
theorem ggX2_firstFault_X2_signAt : GoodIn wsX2_firstFault wsX2_signAt := goodIn_r _ [6, 1, 7, 8, 9, 10, 11, 12, 13, 14, 21, 22] (by decide +kernel) (by decide +kernel)
set_option maxRecDepth 20000 in
theorem gX2_firstFault_X2_signAt : GoodIn wsX2_firstFault (wsV RX2 29 RX2 yX2_signAt wsX2_signAt) := goodIn_app (goodIn_of _ (by decide +kernel)) ggX2_firstFault_X2_signAt
set_option maxRecDepth 20000 in
theorem ggX2_firstFault_X6_isIn : GoodIn wsX2_firstFault wsX6_isIn := goodIn_r _ [14] (by decide +kernel) (by decide +kernel)
set_option maxRecDepth 20000 in
theorem gX2_firstFault_X6_isIn_n19 : GoodIn wsX2_firstFault (wsX6_isIn) := ggX2_firstFault_X6_isIn
set_option maxRecDepth 20000 in
theorem ggX2_firstFault_X2_isDeed : GoodIn wsX2_firstFault wsX2_isDeed := goodIn_r _ [17] (by decide +kernel) (by decide +kernel)
set_option maxRecDepth 20000 in
theorem gX2_firstFault_X2_isDeed : GoodIn wsX2_firstFault (va_wsS RX2 33 yX2_isDeed wsX2_isDeed) := goodIn_app (goodIn_of _ (by decide +kernel)) ggX2_firstFault_X2_isDeed
set_option maxRecDepth 20000 in
theorem ggX2_firstFault_X2_isLetter : GoodIn wsX2_firstFault wsX2_isLetter := goodIn_r _ [20, 12, 13, 14] (by decide +kernel) (by decide +kernel)
set_option maxRecDepth 20000 in
theorem gX2_firstFault_X2_isLetter : GoodIn wsX2_firstFault (va_wsS RX2 37 yX2_isLetter wsX2_isLetter) := goodIn_app (goodIn_of _ (by decide +kernel)) ggX2_firstFault_X2_isLetter
theorem dX2_firstFault_0 : decode cX2_firstFault 0 = .ok (.iconst 0, 1) := by decide +kernel
theorem dX2_firstFault_1 : decode cX2_firstFault 1 = .ok (.istore_n 1, 1) := by decide +kernel
theorem dX2_firstFault_2 : decode cX2_firstFault 2 = .ok (.iconst 0, 1) := by decide +kernel
theorem dX2_firstFault_3 : decode cX2_firstFault 3 = .ok (.istore_n 2, 1) := by decide +kernel
theorem dX2_firstFault_4 : decode cX2_firstFault 4 = .ok (.iconst 0, 1) := by decide +kernel
theorem dX2_firstFault_5 : decode cX2_firstFault 5 = .ok (.istore_n 3, 1) := by decide +kernel
theorem dX2_firstFault_6 : decode cX2_firstFault 6 = .ok (.iload_n 3, 1) := by decide +kernel
theorem dX2_firstFault_7 : decode cX2_firstFault 7 = .ok (.aload_n 0, 1) := by decide +kernel
theorem dX2_firstFault_8 : decode cX2_firstFault 8 = .ok (.getfield 9, 3) := by decide +kernel
theorem dX2_firstFault_11 : decode cX2_firstFault 11 = .ok (.if_icmp .ge 114, 3) := by decide +kernel
theorem dX2_firstFault_14 : decode cX2_firstFault 14 = .ok (.aload_n 0, 1) := by decide +kernel
theorem dX2_firstFault_15 : decode cX2_firstFault 15 = .ok (.iload_n 3, 1) := by decide +kernel
theorem dX2_firstFault_16 : decode cX2_firstFault 16 = .ok (.invokevirtual 29, 3) := by decide +kernel
theorem dX2_firstFault_19 : decode cX2_firstFault 19 = .ok (.istore 4, 2) := by decide +kernel
theorem dX2_firstFault_21 : decode cX2_firstFault 21 = .ok (.iload_n 2, 1) := by decide +kernel
theorem dX2_firstFault_22 : decode cX2_firstFault 22 = .ok (.ifCond .eq 22, 3) := by decide +kernel
theorem dX2_firstFault_25 : decode cX2_firstFault 25 = .ok (.iload 4, 2) := by decide +kernel
theorem dX2_firstFault_27 : decode cX2_firstFault 27 = .ok (.bipush 49, 2) := by decide +kernel
theorem dX2_firstFault_29 : decode cX2_firstFault 29 = .ok (.bipush 57, 2) := by decide +kernel
theorem dX2_firstFault_31 : decode cX2_firstFault 31 = .ok (.invokestatic 19, 3) := by decide +kernel
theorem dX2_firstFault_34 : decode cX2_firstFault 34 = .ok (.ifCond .ne 5, 3) := by decide +kernel
theorem dX2_firstFault_37 : decode cX2_firstFault 37 = .ok (.iload_n 3, 1) := by decide +kernel
theorem dX2_firstFault_38 : decode cX2_firstFault 38 = .ok (.ireturn, 1) := by decide +kernel
theorem dX2_firstFault_39 : decode cX2_firstFault 39 = .ok (.iconst 0, 1) := by decide +kernel
theorem dX2_firstFault_40 : decode cX2_firstFault 40 = .ok (.istore_n 2, 1) := by decide +kernel
theorem dX2_firstFault_41 : decode cX2_firstFault 41 = .ok (.goto 78, 3) := by decide +kernel
theorem dX2_firstFault_44 : decode cX2_firstFault 44 = .ok (.iload_n 1, 1) := by decide +kernel
theorem dX2_firstFault_45 : decode cX2_firstFault 45 = .ok (.ifCond .eq 31, 3) := by decide +kernel
theorem dX2_firstFault_48 : decode cX2_firstFault 48 = .ok (.iload 4, 2) := by decide +kernel
theorem dX2_firstFault_50 : decode cX2_firstFault 50 = .ok (.invokestatic 33, 3) := by decide +kernel
theorem dX2_firstFault_53 : decode cX2_firstFault 53 = .ok (.ifCond .ne 5, 3) := by decide +kernel
theorem dX2_firstFault_56 : decode cX2_firstFault 56 = .ok (.iload_n 3, 1) := by decide +kernel
theorem dX2_firstFault_57 : decode cX2_firstFault 57 = .ok (.ireturn, 1) := by decide +kernel
theorem dX2_firstFault_58 : decode cX2_firstFault 58 = .ok (.iconst 0, 1) := by decide +kernel
theorem dX2_firstFault_59 : decode cX2_firstFault 59 = .ok (.istore_n 1, 1) := by decide +kernel
theorem dX2_firstFault_60 : decode cX2_firstFault 60 = .ok (.iload 4, 2) := by decide +kernel
theorem dX2_firstFault_62 : decode cX2_firstFault 62 = .ok (.bipush 36, 2) := by decide +kernel
theorem dX2_firstFault_64 : decode cX2_firstFault 64 = .ok (.if_icmp .ne 7, 3) := by decide +kernel
theorem dX2_firstFault_67 : decode cX2_firstFault 67 = .ok (.iconst 1, 1) := by decide +kernel
theorem dX2_firstFault_68 : decode cX2_firstFault 68 = .ok (.goto 4, 3) := by decide +kernel
theorem dX2_firstFault_71 : decode cX2_firstFault 71 = .ok (.iconst 0, 1) := by decide +kernel
theorem dX2_firstFault_72 : decode cX2_firstFault 72 = .ok (.istore_n 2, 1) := by decide +kernel
theorem dX2_firstFault_73 : decode cX2_firstFault 73 = .ok (.goto 46, 3) := by decide +kernel
theorem dX2_firstFault_76 : decode cX2_firstFault 76 = .ok (.iload 4, 2) := by decide +kernel
theorem dX2_firstFault_78 : decode cX2_firstFault 78 = .ok (.invokestatic 37, 3) := by decide +kernel
theorem dX2_firstFault_81 : decode cX2_firstFault 81 = .ok (.istore_n 1, 1) := by decide +kernel
theorem dX2_firstFault_82 : decode cX2_firstFault 82 = .ok (.iload 4, 2) := by decide +kernel
theorem dX2_firstFault_84 : decode cX2_firstFault 84 = .ok (.bipush 104, 2) := by decide +kernel
theorem dX2_firstFault_86 : decode cX2_firstFault 86 = .ok (.if_icmp .eq 10, 3) := by decide +kernel
theorem dX2_firstFault_89 : decode cX2_firstFault 89 = .ok (.iload 4, 2) := by decide +kernel
theorem dX2_firstFault_91 : decode cX2_firstFault 91 = .ok (.bipush 100, 2) := by decide +kernel
theorem dX2_firstFault_93 : decode cX2_firstFault 93 = .ok (.if_icmp .ne 7, 3) := by decide +kernel
theorem dX2_firstFault_96 : decode cX2_firstFault 96 = .ok (.iconst 1, 1) := by decide +kernel
theorem dX2_firstFault_97 : decode cX2_firstFault 97 = .ok (.goto 4, 3) := by decide +kernel
theorem dX2_firstFault_100 : decode cX2_firstFault 100 = .ok (.iconst 0, 1) := by decide +kernel
theorem dX2_firstFault_101 : decode cX2_firstFault 101 = .ok (.istore_n 2, 1) := by decide +kernel
theorem dX2_firstFault_102 : decode cX2_firstFault 102 = .ok (.iload_n 1, 1) := by decide +kernel
theorem dX2_firstFault_103 : decode cX2_firstFault 103 = .ok (.ifCond .ne 16, 3) := by decide +kernel
theorem dX2_firstFault_106 : decode cX2_firstFault 106 = .ok (.iload_n 2, 1) := by decide +kernel
theorem dX2_firstFault_107 : decode cX2_firstFault 107 = .ok (.ifCond .ne 12, 3) := by decide +kernel
theorem dX2_firstFault_110 : decode cX2_firstFault 110 = .ok (.iload 4, 2) := by decide +kernel
theorem dX2_firstFault_112 : decode cX2_firstFault 112 = .ok (.bipush 107, 2) := by decide +kernel
theorem dX2_firstFault_114 : decode cX2_firstFault 114 = .ok (.if_icmp .eq 5, 3) := by decide +kernel
theorem dX2_firstFault_117 : decode cX2_firstFault 117 = .ok (.iload_n 3, 1) := by decide +kernel
theorem dX2_firstFault_118 : decode cX2_firstFault 118 = .ok (.ireturn, 1) := by decide +kernel
theorem dX2_firstFault_119 : decode cX2_firstFault 119 = .ok (.iinc 3 1, 3) := by decide +kernel
theorem dX2_firstFault_122 : decode cX2_firstFault 122 = .ok (.goto (-116), 3) := by decide +kernel
theorem dX2_firstFault_125 : decode cX2_firstFault 125 = .ok (.iload_n 1, 1) := by decide +kernel
theorem dX2_firstFault_126 : decode cX2_firstFault 126 = .ok (.ifCond .ne 7, 3) := by decide +kernel
theorem dX2_firstFault_129 : decode cX2_firstFault 129 = .ok (.iload_n 2, 1) := by decide +kernel
theorem dX2_firstFault_130 : decode cX2_firstFault 130 = .ok (.ifCond .eq 10, 3) := by decide +kernel
theorem dX2_firstFault_133 : decode cX2_firstFault 133 = .ok (.aload_n 0, 1) := by decide +kernel
theorem dX2_firstFault_134 : decode cX2_firstFault 134 = .ok (.getfield 9, 3) := by decide +kernel
theorem dX2_firstFault_137 : decode cX2_firstFault 137 = .ok (.goto 5, 3) := by decide +kernel
theorem dX2_firstFault_140 : decode cX2_firstFault 140 = .ok (.bipush (-6), 2) := by decide +kernel
theorem dX2_firstFault_142 : decode cX2_firstFault 142 = .ok (.ireturn, 1) := by decide +kernel
set_option maxRecDepth 20000 in
theorem ggX2_isLetter_X6_isIn : GoodIn wsX2_isLetter wsX6_isIn := goodIn_r _ [3] (by decide +kernel) (by decide +kernel)
set_option maxRecDepth 20000 in
theorem gX2_isLetter_X6_isIn_n19 : GoodIn wsX2_isLetter (wsX6_isIn) := ggX2_isLetter_X6_isIn
theorem dX2_isLetter_0 : decode cX2_isLetter 0 = .ok (.iload_n 0, 1) := by decide +kernel
theorem dX2_isLetter_1 : decode cX2_isLetter 1 = .ok (.bipush 65, 2) := by decide +kernel
theorem dX2_isLetter_3 : decode cX2_isLetter 3 = .ok (.bipush 70, 2) := by decide +kernel
theorem dX2_isLetter_5 : decode cX2_isLetter 5 = .ok (.invokestatic 19, 3) := by decide +kernel
theorem dX2_isLetter_8 : decode cX2_isLetter 8 = .ok (.ireturn, 1) := by decide +kernel
theorem dX2_isDeed_0 : decode cX2_isDeed 0 = .ok (.iload_n 0, 1) := by decide +kernel
theorem dX2_isDeed_1 : decode cX2_isDeed 1 = .ok (.bipush 40, 2) := by decide +kernel
theorem dX2_isDeed_3 : decode cX2_isDeed 3 = .ok (.if_icmp .eq 33, 3) := by decide +kernel
theorem dX2_isDeed_6 : decode cX2_isDeed 6 = .ok (.iload_n 0, 1) := by decide +kernel
theorem dX2_isDeed_7 : decode cX2_isDeed 7 = .ok (.bipush 41, 2) := by decide +kernel
theorem dX2_isDeed_9 : decode cX2_isDeed 9 = .ok (.if_icmp .eq 27, 3) := by decide +kernel
theorem dX2_isDeed_12 : decode cX2_isDeed 12 = .ok (.iload_n 0, 1) := by decide +kernel
theorem dX2_isDeed_13 : decode cX2_isDeed 13 = .ok (.bipush 62, 2) := by decide +kernel
theorem dX2_isDeed_15 : decode cX2_isDeed 15 = .ok (.if_icmp .eq 21, 3) := by decide +kernel
theorem dX2_isDeed_18 : decode cX2_isDeed 18 = .ok (.iload_n 0, 1) := by decide +kernel
theorem dX2_isDeed_19 : decode cX2_isDeed 19 = .ok (.bipush 60, 2) := by decide +kernel
theorem dX2_isDeed_21 : decode cX2_isDeed 21 = .ok (.if_icmp .eq 15, 3) := by decide +kernel
theorem dX2_isDeed_24 : decode cX2_isDeed 24 = .ok (.iload_n 0, 1) := by decide +kernel
theorem dX2_isDeed_25 : decode cX2_isDeed 25 = .ok (.bipush 36, 2) := by decide +kernel
theorem dX2_isDeed_27 : decode cX2_isDeed 27 = .ok (.if_icmp .eq 9, 3) := by decide +kernel
theorem dX2_isDeed_30 : decode cX2_isDeed 30 = .ok (.iload_n 0, 1) := by decide +kernel
theorem dX2_isDeed_31 : decode cX2_isDeed 31 = .ok (.bipush 37, 2) := by decide +kernel
theorem dX2_isDeed_33 : decode cX2_isDeed 33 = .ok (.if_icmp .ne 7, 3) := by decide +kernel
theorem dX2_isDeed_36 : decode cX2_isDeed 36 = .ok (.iconst 1, 1) := by decide +kernel
theorem dX2_isDeed_37 : decode cX2_isDeed 37 = .ok (.goto 4, 3) := by decide +kernel
theorem dX2_isDeed_40 : decode cX2_isDeed 40 = .ok (.iconst 0, 1) := by decide +kernel
theorem dX2_isDeed_41 : decode cX2_isDeed 41 = .ok (.ireturn, 1) := by decide +kernel
set_option maxRecDepth 20000 in
theorem ggX2_readAct_X2_signAt : GoodIn wsX2_readAct wsX2_signAt := goodIn_r _ [8, 9, 10, 11, 12, 13, 14, 15, 16, 17, 28, 29] (by decide +kernel) (by decide +kernel)
set_option maxRecDepth 20000 in
theorem gX2_readAct_X2_signAt : GoodIn wsX2_readAct (wsV RX2 29 RX2 yX2_signAt wsX2_signAt) := goodIn_app (goodIn_of _ (by decide +kernel)) ggX2_readAct_X2_signAt
set_option maxRecDepth 20000 in
theorem ggX2_readAct_X2_isLetter : GoodIn wsX2_readAct wsX2_isLetter := goodIn_r _ [20, 15, 16, 17] (by decide +kernel) (by decide +kernel)
set_option maxRecDepth 20000 in
theorem gX2_readAct_X2_isLetter : GoodIn wsX2_readAct (va_wsS RX2 37 yX2_isLetter wsX2_isLetter) := goodIn_app (goodIn_of _ (by decide +kernel)) ggX2_readAct_X2_isLetter
set_option maxRecDepth 20000 in
theorem ggX2_readAct_X2_digitAt : GoodIn wsX2_readAct wsX2_digitAt := goodIn_r _ [24, 4, 5, 6, 7, 8, 9, 10, 11, 12, 13, 14, 15, 16, 17, 28, 29] (by decide +kernel) (by decide +kernel)
set_option maxRecDepth 20000 in
theorem gX2_readAct_X2_digitAt : GoodIn wsX2_readAct (wsV RX2 48 RX2 yX2_digitAt wsX2_digitAt) := goodIn_app (goodIn_of _ (by decide +kernel)) ggX2_readAct_X2_digitAt
theorem dX2_readAct_0 : decode cX2_readAct 0 = .ok (.iload_n 1, 1) := by decide +kernel
theorem dX2_readAct_1 : decode cX2_readAct 1 = .ok (.istore_n 3, 1) := by decide +kernel
theorem dX2_readAct_2 : decode cX2_readAct 2 = .ok (.aload_n 0, 1) := by decide +kernel
theorem dX2_readAct_3 : decode cX2_readAct 3 = .ok (.iload_n 3, 1) := by decide +kernel
theorem dX2_readAct_4 : decode cX2_readAct 4 = .ok (.invokevirtual 29, 3) := by decide +kernel
theorem dX2_readAct_7 : decode cX2_readAct 7 = .ok (.invokestatic 37, 3) := by decide +kernel
theorem dX2_readAct_10 : decode cX2_readAct 10 = .ok (.ifCond .eq 18, 3) := by decide +kernel
theorem dX2_readAct_13 : decode cX2_readAct 13 = .ok (.aload_n 2, 1) := by decide +kernel
theorem dX2_readAct_14 : decode cX2_readAct 14 = .ok (.aload_n 0, 1) := by decide +kernel
theorem dX2_readAct_15 : decode cX2_readAct 15 = .ok (.iload_n 3, 1) := by decide +kernel
theorem dX2_readAct_16 : decode cX2_readAct 16 = .ok (.invokevirtual 29, 3) := by decide +kernel
theorem dX2_readAct_19 : decode cX2_readAct 19 = .ok (.bipush 65, 2) := by decide +kernel
theorem dX2_readAct_21 : decode cX2_readAct 21 = .ok (.isub, 1) := by decide +kernel
theorem dX2_readAct_22 : decode cX2_readAct 22 = .ok (.putfield 40, 3) := by decide +kernel
theorem dX2_readAct_25 : decode cX2_readAct 25 = .ok (.iinc 3 1, 3) := by decide +kernel
theorem dX2_readAct_28 : decode cX2_readAct 28 = .ok (.aload_n 2, 1) := by decide +kernel
theorem dX2_readAct_29 : decode cX2_readAct 29 = .ok (.aload_n 0, 1) := by decide +kernel
theorem dX2_readAct_30 : decode cX2_readAct 30 = .ok (.iload_n 3, 1) := by decide +kernel
theorem dX2_readAct_31 : decode cX2_readAct 31 = .ok (.invokevirtual 29, 3) := by decide +kernel
theorem dX2_readAct_34 : decode cX2_readAct 34 = .ok (.putfield 45, 3) := by decide +kernel
theorem dX2_readAct_37 : decode cX2_readAct 37 = .ok (.iinc 3 1, 3) := by decide +kernel
theorem dX2_readAct_40 : decode cX2_readAct 40 = .ok (.aload_n 2, 1) := by decide +kernel
theorem dX2_readAct_41 : decode cX2_readAct 41 = .ok (.getfield 45, 3) := by decide +kernel
theorem dX2_readAct_44 : decode cX2_readAct 44 = .ok (.bipush 36, 2) := by decide +kernel
theorem dX2_readAct_46 : decode cX2_readAct 46 = .ok (.if_icmp .eq 21, 3) := by decide +kernel
theorem dX2_readAct_49 : decode cX2_readAct 49 = .ok (.aload_n 2, 1) := by decide +kernel
theorem dX2_readAct_50 : decode cX2_readAct 50 = .ok (.getfield 45, 3) := by decide +kernel
theorem dX2_readAct_53 : decode cX2_readAct 53 = .ok (.bipush 104, 2) := by decide +kernel
theorem dX2_readAct_55 : decode cX2_readAct 55 = .ok (.if_icmp .eq 12, 3) := by decide +kernel
theorem dX2_readAct_58 : decode cX2_readAct 58 = .ok (.aload_n 2, 1) := by decide +kernel
theorem dX2_readAct_59 : decode cX2_readAct 59 = .ok (.getfield 45, 3) := by decide +kernel
theorem dX2_readAct_62 : decode cX2_readAct 62 = .ok (.bipush 100, 2) := by decide +kernel
theorem dX2_readAct_64 : decode cX2_readAct 64 = .ok (.if_icmp .ne 15, 3) := by decide +kernel
theorem dX2_readAct_67 : decode cX2_readAct 67 = .ok (.aload_n 2, 1) := by decide +kernel
theorem dX2_readAct_68 : decode cX2_readAct 68 = .ok (.aload_n 0, 1) := by decide +kernel
theorem dX2_readAct_69 : decode cX2_readAct 69 = .ok (.iload_n 3, 1) := by decide +kernel
theorem dX2_readAct_70 : decode cX2_readAct 70 = .ok (.invokevirtual 48, 3) := by decide +kernel
theorem dX2_readAct_73 : decode cX2_readAct 73 = .ok (.putfield 51, 3) := by decide +kernel
theorem dX2_readAct_76 : decode cX2_readAct 76 = .ok (.iinc 3 1, 3) := by decide +kernel
theorem dX2_readAct_79 : decode cX2_readAct 79 = .ok (.iload_n 3, 1) := by decide +kernel
theorem dX2_readAct_80 : decode cX2_readAct 80 = .ok (.ireturn, 1) := by decide +kernel
theorem dX3_init_0 : decode cX3_init 0 = .ok (.aload_n 0, 1) := by decide +kernel
theorem dX3_init_1 : decode cX3_init 1 = .ok (.invokespecial 3, 3) := by decide +kernel
theorem dX3_init_4 : decode cX3_init 4 = .ok (.aload_n 0, 1) := by decide +kernel
theorem dX3_init_5 : decode cX3_init 5 = .ok (.iconst 0, 1) := by decide +kernel
theorem dX3_init_6 : decode cX3_init 6 = .ok (.putfield 9, 3) := by decide +kernel
theorem dX3_init_9 : decode cX3_init 9 = .ok (.aload_n 0, 1) := by decide +kernel
theorem dX3_init_10 : decode cX3_init 10 = .ok (.bipush 8, 2) := by decide +kernel
theorem dX3_init_12 : decode cX3_init 12 = .ok (.newarray .int, 2) := by decide +kernel
theorem dX3_init_14 : decode cX3_init 14 = .ok (.putfield 15, 3) := by decide +kernel
theorem dX3_init_17 : decode cX3_init 17 = .ok (.aload_n 0, 1) := by decide +kernel
theorem dX3_init_18 : decode cX3_init 18 = .ok (.bipush 8, 2) := by decide +kernel
theorem dX3_init_20 : decode cX3_init 20 = .ok (.newarray .boolean, 2) := by decide +kernel
theorem dX3_init_22 : decode cX3_init 22 = .ok (.putfield 19, 3) := by decide +kernel
theorem dX3_init_25 : decode cX3_init 25 = .ok (.return_, 1) := by decide +kernel
theorem dX3_become_0 : decode cX3_become 0 = .ok (.aload_n 0, 1) := by decide +kernel
theorem dX3_become_1 : decode cX3_become 1 = .ok (.aload_n 1, 1) := by decide +kernel
theorem dX3_become_2 : decode cX3_become 2 = .ok (.getfield 9, 3) := by decide +kernel
theorem dX3_become_5 : decode cX3_become 5 = .ok (.putfield 9, 3) := by decide +kernel
theorem dX3_become_8 : decode cX3_become 8 = .ok (.iconst 0, 1) := by decide +kernel
theorem dX3_become_9 : decode cX3_become 9 = .ok (.istore_n 2, 1) := by decide +kernel
theorem dX3_become_10 : decode cX3_become 10 = .ok (.iload_n 2, 1) := by decide +kernel
theorem dX3_become_11 : decode cX3_become 11 = .ok (.bipush 8, 2) := by decide +kernel
theorem dX3_become_13 : decode cX3_become 13 = .ok (.if_icmp .ge 33, 3) := by decide +kernel
theorem dX3_become_16 : decode cX3_become 16 = .ok (.aload_n 0, 1) := by decide +kernel
theorem dX3_become_17 : decode cX3_become 17 = .ok (.getfield 15, 3) := by decide +kernel
theorem dX3_become_20 : decode cX3_become 20 = .ok (.iload_n 2, 1) := by decide +kernel
theorem dX3_become_21 : decode cX3_become 21 = .ok (.aload_n 1, 1) := by decide +kernel
theorem dX3_become_22 : decode cX3_become 22 = .ok (.getfield 15, 3) := by decide +kernel
theorem dX3_become_25 : decode cX3_become 25 = .ok (.iload_n 2, 1) := by decide +kernel
theorem dX3_become_26 : decode cX3_become 26 = .ok (.iaload, 1) := by decide +kernel
theorem dX3_become_27 : decode cX3_become 27 = .ok (.iastore, 1) := by decide +kernel
theorem dX3_become_28 : decode cX3_become 28 = .ok (.aload_n 0, 1) := by decide +kernel
theorem dX3_become_29 : decode cX3_become 29 = .ok (.getfield 19, 3) := by decide +kernel
theorem dX3_become_32 : decode cX3_become 32 = .ok (.iload_n 2, 1) := by decide +kernel
theorem dX3_become_33 : decode cX3_become 33 = .ok (.aload_n 1, 1) := by decide +kernel
theorem dX3_become_34 : decode cX3_become 34 = .ok (.getfield 19, 3) := by decide +kernel
theorem dX3_become_37 : decode cX3_become 37 = .ok (.iload_n 2, 1) := by decide +kernel
theorem dX3_become_38 : decode cX3_become 38 = .ok (.baload, 1) := by decide +kernel
theorem dX3_become_39 : decode cX3_become 39 = .ok (.bastore, 1) := by decide +kernel
theorem dX3_become_40 : decode cX3_become 40 = .ok (.iinc 2 1, 3) := by decide +kernel
theorem dX3_become_43 : decode cX3_become 43 = .ok (.goto (-33), 3) := by decide +kernel
theorem dX3_become_46 : decode cX3_become 46 = .ok (.return_, 1) := by decide +kernel
set_option maxRecDepth 20000 in
theorem ggX3_add_X6_isIn : GoodIn wsX3_add wsX6_isIn := goodIn_r _ [6] (by decide +kernel) (by decide +kernel)
set_option maxRecDepth 20000 in
theorem gX3_add_X6_isIn_n23 : GoodIn wsX3_add (wsX6_isIn) := ggX3_add_X6_isIn
theorem dX3_add_0 : decode cX3_add 0 = .ok (.aload_n 0, 1) := by decide +kernel
theorem dX3_add_1 : decode cX3_add 1 = .ok (.getfield 9, 3) := by decide +kernel
theorem dX3_add_4 : decode cX3_add 4 = .ok (.iconst 0, 1) := by decide +kernel
theorem dX3_add_5 : decode cX3_add 5 = .ok (.bipush 7, 2) := by decide +kernel
theorem dX3_add_7 : decode cX3_add 7 = .ok (.invokestatic 23, 3) := by decide +kernel
theorem dX3_add_10 : decode cX3_add 10 = .ok (.ifCond .ne 5, 3) := by decide +kernel
theorem dX3_add_13 : decode cX3_add 13 = .ok (.iconst 0, 1) := by decide +kernel
theorem dX3_add_14 : decode cX3_add 14 = .ok (.ireturn, 1) := by decide +kernel
theorem dX3_add_15 : decode cX3_add 15 = .ok (.aload_n 0, 1) := by decide +kernel
theorem dX3_add_16 : decode cX3_add 16 = .ok (.getfield 15, 3) := by decide +kernel
theorem dX3_add_19 : decode cX3_add 19 = .ok (.aload_n 0, 1) := by decide +kernel
theorem dX3_add_20 : decode cX3_add 20 = .ok (.getfield 9, 3) := by decide +kernel
theorem dX3_add_23 : decode cX3_add 23 = .ok (.iload_n 1, 1) := by decide +kernel
theorem dX3_add_24 : decode cX3_add 24 = .ok (.iastore, 1) := by decide +kernel
theorem dX3_add_25 : decode cX3_add 25 = .ok (.aload_n 0, 1) := by decide +kernel
theorem dX3_add_26 : decode cX3_add 26 = .ok (.getfield 19, 3) := by decide +kernel
theorem dX3_add_29 : decode cX3_add 29 = .ok (.aload_n 0, 1) := by decide +kernel
theorem dX3_add_30 : decode cX3_add 30 = .ok (.getfield 9, 3) := by decide +kernel
theorem dX3_add_33 : decode cX3_add 33 = .ok (.iload_n 2, 1) := by decide +kernel
theorem dX3_add_34 : decode cX3_add 34 = .ok (.bastore, 1) := by decide +kernel
theorem dX3_add_35 : decode cX3_add 35 = .ok (.aload_n 0, 1) := by decide +kernel
theorem dX3_add_36 : decode cX3_add 36 = .ok (.dup, 1) := by decide +kernel
theorem dX3_add_37 : decode cX3_add 37 = .ok (.getfield 9, 3) := by decide +kernel
theorem dX3_add_40 : decode cX3_add 40 = .ok (.iconst 1, 1) := by decide +kernel
theorem dX3_add_41 : decode cX3_add 41 = .ok (.iadd, 1) := by decide +kernel
theorem dX3_add_42 : decode cX3_add 42 = .ok (.putfield 9, 3) := by decide +kernel
theorem dX3_add_45 : decode cX3_add 45 = .ok (.iconst 1, 1) := by decide +kernel
theorem dX3_add_46 : decode cX3_add 46 = .ok (.ireturn, 1) := by decide +kernel
theorem dX3_fits_0 : decode cX3_fits 0 = .ok (.iload_n 1, 1) := by decide +kernel
theorem dX3_fits_1 : decode cX3_fits 1 = .ok (.ifCond .gt 5, 3) := by decide +kernel
theorem dX3_fits_4 : decode cX3_fits 4 = .ok (.iconst 0, 1) := by decide +kernel
theorem dX3_fits_5 : decode cX3_fits 5 = .ok (.ireturn, 1) := by decide +kernel
theorem dX3_fits_6 : decode cX3_fits 6 = .ok (.iconst 0, 1) := by decide +kernel
theorem dX3_fits_7 : decode cX3_fits 7 = .ok (.istore_n 3, 1) := by decide +kernel
theorem dX3_fits_8 : decode cX3_fits 8 = .ok (.iload_n 3, 1) := by decide +kernel
theorem dX3_fits_9 : decode cX3_fits 9 = .ok (.aload_n 0, 1) := by decide +kernel
theorem dX3_fits_10 : decode cX3_fits 10 = .ok (.getfield 9, 3) := by decide +kernel
theorem dX3_fits_13 : decode cX3_fits 13 = .ok (.if_icmp .ge 43, 3) := by decide +kernel
theorem dX3_fits_16 : decode cX3_fits 16 = .ok (.iload_n 3, 1) := by decide +kernel
theorem dX3_fits_17 : decode cX3_fits 17 = .ok (.bipush 8, 2) := by decide +kernel
theorem dX3_fits_19 : decode cX3_fits 19 = .ok (.if_icmp .ge 37, 3) := by decide +kernel
theorem dX3_fits_22 : decode cX3_fits 22 = .ok (.aload_n 0, 1) := by decide +kernel
theorem dX3_fits_23 : decode cX3_fits 23 = .ok (.getfield 19, 3) := by decide +kernel
theorem dX3_fits_26 : decode cX3_fits 26 = .ok (.iload_n 3, 1) := by decide +kernel
theorem dX3_fits_27 : decode cX3_fits 27 = .ok (.baload, 1) := by decide +kernel
theorem dX3_fits_28 : decode cX3_fits 28 = .ok (.aload_n 0, 1) := by decide +kernel
theorem dX3_fits_29 : decode cX3_fits 29 = .ok (.getfield 15, 3) := by decide +kernel
theorem dX3_fits_32 : decode cX3_fits 32 = .ok (.iload_n 3, 1) := by decide +kernel
theorem dX3_fits_33 : decode cX3_fits 33 = .ok (.iaload, 1) := by decide +kernel
theorem dX3_fits_34 : decode cX3_fits 34 = .ok (.iload_n 1, 1) := by decide +kernel
theorem dX3_fits_35 : decode cX3_fits 35 = .ok (.irem, 1) := by decide +kernel
theorem dX3_fits_36 : decode cX3_fits 36 = .ok (.iload_n 2, 1) := by decide +kernel
theorem dX3_fits_37 : decode cX3_fits 37 = .ok (.if_icmp .ne 7, 3) := by decide +kernel
theorem dX3_fits_40 : decode cX3_fits 40 = .ok (.iconst 1, 1) := by decide +kernel
theorem dX3_fits_41 : decode cX3_fits 41 = .ok (.goto 4, 3) := by decide +kernel
theorem dX3_fits_44 : decode cX3_fits 44 = .ok (.iconst 0, 1) := by decide +kernel
theorem dX3_fits_45 : decode cX3_fits 45 = .ok (.if_icmp .eq 5, 3) := by decide +kernel
theorem dX3_fits_48 : decode cX3_fits 48 = .ok (.iconst 0, 1) := by decide +kernel
theorem dX3_fits_49 : decode cX3_fits 49 = .ok (.ireturn, 1) := by decide +kernel
theorem dX3_fits_50 : decode cX3_fits 50 = .ok (.iinc 3 1, 3) := by decide +kernel
theorem dX3_fits_53 : decode cX3_fits 53 = .ok (.goto (-45), 3) := by decide +kernel
theorem dX3_fits_56 : decode cX3_fits 56 = .ok (.iconst 1, 1) := by decide +kernel
theorem dX3_fits_57 : decode cX3_fits 57 = .ok (.ireturn, 1) := by decide +kernel
set_option maxRecDepth 20000 in
theorem ggX3_fittingRounds_X3_fits : GoodIn wsX3_fittingRounds wsX3_fits := goodIn_r _ [5, 6, 7, 8, 9, 10, 11] (by decide +kernel) (by decide +kernel)
set_option maxRecDepth 20000 in
theorem gX3_fittingRounds_X3_fits : GoodIn wsX3_fittingRounds (wsV RX3 27 RX3 yX3_fits wsX3_fits) := goodIn_app (goodIn_of _ (by decide +kernel)) ggX3_fittingRounds_X3_fits
theorem dX3_fittingRounds_0 : decode cX3_fittingRounds 0 = .ok (.iconst 0, 1) := by decide +kernel
theorem dX3_fittingRounds_1 : decode cX3_fittingRounds 1 = .ok (.istore_n 1, 1) := by decide +kernel
theorem dX3_fittingRounds_2 : decode cX3_fittingRounds 2 = .ok (.iconst 2, 1) := by decide +kernel
theorem dX3_fittingRounds_3 : decode cX3_fittingRounds 3 = .ok (.istore_n 2, 1) := by decide +kernel
theorem dX3_fittingRounds_4 : decode cX3_fittingRounds 4 = .ok (.iload_n 2, 1) := by decide +kernel
theorem dX3_fittingRounds_5 : decode cX3_fittingRounds 5 = .ok (.bipush 20, 2) := by decide +kernel
theorem dX3_fittingRounds_7 : decode cX3_fittingRounds 7 = .ok (.if_icmp .gt 34, 3) := by decide +kernel
theorem dX3_fittingRounds_10 : decode cX3_fittingRounds 10 = .ok (.iconst 0, 1) := by decide +kernel
theorem dX3_fittingRounds_11 : decode cX3_fittingRounds 11 = .ok (.istore_n 3, 1) := by decide +kernel
theorem dX3_fittingRounds_12 : decode cX3_fittingRounds 12 = .ok (.iload_n 3, 1) := by decide +kernel
theorem dX3_fittingRounds_13 : decode cX3_fittingRounds 13 = .ok (.iload_n 2, 1) := by decide +kernel
theorem dX3_fittingRounds_14 : decode cX3_fittingRounds 14 = .ok (.if_icmp .ge 21, 3) := by decide +kernel
theorem dX3_fittingRounds_17 : decode cX3_fittingRounds 17 = .ok (.aload_n 0, 1) := by decide +kernel
theorem dX3_fittingRounds_18 : decode cX3_fittingRounds 18 = .ok (.iload_n 2, 1) := by decide +kernel
theorem dX3_fittingRounds_19 : decode cX3_fittingRounds 19 = .ok (.iload_n 3, 1) := by decide +kernel
theorem dX3_fittingRounds_20 : decode cX3_fittingRounds 20 = .ok (.invokevirtual 27, 3) := by decide +kernel
theorem dX3_fittingRounds_23 : decode cX3_fittingRounds 23 = .ok (.ifCond .eq 6, 3) := by decide +kernel
theorem dX3_fittingRounds_26 : decode cX3_fittingRounds 26 = .ok (.iinc 1 1, 3) := by decide +kernel
theorem dX3_fittingRounds_29 : decode cX3_fittingRounds 29 = .ok (.iinc 3 1, 3) := by decide +kernel
theorem dX3_fittingRounds_32 : decode cX3_fittingRounds 32 = .ok (.goto (-20), 3) := by decide +kernel
theorem dX3_fittingRounds_35 : decode cX3_fittingRounds 35 = .ok (.iinc 2 1, 3) := by decide +kernel
theorem dX3_fittingRounds_38 : decode cX3_fittingRounds 38 = .ok (.goto (-34), 3) := by decide +kernel
theorem dX3_fittingRounds_41 : decode cX3_fittingRounds 41 = .ok (.iload_n 1, 1) := by decide +kernel
theorem dX3_fittingRounds_42 : decode cX3_fittingRounds 42 = .ok (.ireturn, 1) := by decide +kernel
set_option maxRecDepth 20000 in
theorem ggX3_fittingRound_X3_fits : GoodIn wsX3_fittingRound wsX3_fits := goodIn_r _ [5, 6, 7, 8, 9, 10, 11] (by decide +kernel) (by decide +kernel)
set_option maxRecDepth 20000 in
theorem gX3_fittingRound_X3_fits : GoodIn wsX3_fittingRound (wsV RX3 27 RX3 yX3_fits wsX3_fits) := goodIn_app (goodIn_of _ (by decide +kernel)) ggX3_fittingRound_X3_fits
theorem dX3_fittingRound_0 : decode cX3_fittingRound 0 = .ok (.iconst 0, 1) := by decide +kernel
theorem dX3_fittingRound_1 : decode cX3_fittingRound 1 = .ok (.istore_n 2, 1) := by decide +kernel
theorem dX3_fittingRound_2 : decode cX3_fittingRound 2 = .ok (.iconst 2, 1) := by decide +kernel
theorem dX3_fittingRound_3 : decode cX3_fittingRound 3 = .ok (.istore_n 3, 1) := by decide +kernel
theorem dX3_fittingRound_4 : decode cX3_fittingRound 4 = .ok (.iload_n 3, 1) := by decide +kernel
theorem dX3_fittingRound_5 : decode cX3_fittingRound 5 = .ok (.bipush 20, 2) := by decide +kernel
theorem dX3_fittingRound_7 : decode cX3_fittingRound 7 = .ok (.if_icmp .gt 50, 3) := by decide +kernel
theorem dX3_fittingRound_10 : decode cX3_fittingRound 10 = .ok (.iconst 0, 1) := by decide +kernel
theorem dX3_fittingRound_11 : decode cX3_fittingRound 11 = .ok (.istore 4, 2) := by decide +kernel
theorem dX3_fittingRound_13 : decode cX3_fittingRound 13 = .ok (.iload 4, 2) := by decide +kernel
theorem dX3_fittingRound_15 : decode cX3_fittingRound 15 = .ok (.iload_n 3, 1) := by decide +kernel
theorem dX3_fittingRound_16 : decode cX3_fittingRound 16 = .ok (.if_icmp .ge 35, 3) := by decide +kernel
theorem dX3_fittingRound_19 : decode cX3_fittingRound 19 = .ok (.aload_n 0, 1) := by decide +kernel
theorem dX3_fittingRound_20 : decode cX3_fittingRound 20 = .ok (.iload_n 3, 1) := by decide +kernel
theorem dX3_fittingRound_21 : decode cX3_fittingRound 21 = .ok (.iload 4, 2) := by decide +kernel
theorem dX3_fittingRound_23 : decode cX3_fittingRound 23 = .ok (.invokevirtual 27, 3) := by decide +kernel
theorem dX3_fittingRound_26 : decode cX3_fittingRound 26 = .ok (.ifCond .eq 19, 3) := by decide +kernel
theorem dX3_fittingRound_29 : decode cX3_fittingRound 29 = .ok (.iload_n 2, 1) := by decide +kernel
theorem dX3_fittingRound_30 : decode cX3_fittingRound 30 = .ok (.iload_n 1, 1) := by decide +kernel
theorem dX3_fittingRound_31 : decode cX3_fittingRound 31 = .ok (.if_icmp .ne 11, 3) := by decide +kernel
theorem dX3_fittingRound_34 : decode cX3_fittingRound 34 = .ok (.bipush 100, 2) := by decide +kernel
theorem dX3_fittingRound_36 : decode cX3_fittingRound 36 = .ok (.iload_n 3, 1) := by decide +kernel
theorem dX3_fittingRound_37 : decode cX3_fittingRound 37 = .ok (.imul, 1) := by decide +kernel
theorem dX3_fittingRound_38 : decode cX3_fittingRound 38 = .ok (.iload 4, 2) := by decide +kernel
theorem dX3_fittingRound_40 : decode cX3_fittingRound 40 = .ok (.iadd, 1) := by decide +kernel
theorem dX3_fittingRound_41 : decode cX3_fittingRound 41 = .ok (.ireturn, 1) := by decide +kernel
theorem dX3_fittingRound_42 : decode cX3_fittingRound 42 = .ok (.iinc 2 1, 3) := by decide +kernel
theorem dX3_fittingRound_45 : decode cX3_fittingRound 45 = .ok (.iinc 4 1, 3) := by decide +kernel
theorem dX3_fittingRound_48 : decode cX3_fittingRound 48 = .ok (.goto (-35), 3) := by decide +kernel
theorem dX3_fittingRound_51 : decode cX3_fittingRound 51 = .ok (.iinc 3 1, 3) := by decide +kernel
theorem dX3_fittingRound_54 : decode cX3_fittingRound 54 = .ok (.goto (-50), 3) := by decide +kernel
theorem dX3_fittingRound_57 : decode cX3_fittingRound 57 = .ok (.bipush (-6), 2) := by decide +kernel
theorem dX3_fittingRound_59 : decode cX3_fittingRound 59 = .ok (.ireturn, 1) := by decide +kernel
set_option maxRecDepth 20000 in
theorem ggX3_roundsRingingAt_X3_fits : GoodIn wsX3_roundsRingingAt wsX3_fits := goodIn_r _ [5, 6, 7, 8, 9, 10, 11] (by decide +kernel) (by decide +kernel)
set_option maxRecDepth 20000 in
theorem gX3_roundsRingingAt_X3_fits : GoodIn wsX3_roundsRingingAt (wsV RX3 27 RX3 yX3_fits wsX3_fits) := goodIn_app (goodIn_of _ (by decide +kernel)) ggX3_roundsRingingAt_X3_fits
theorem dX3_roundsRingingAt_0 : decode cX3_roundsRingingAt 0 = .ok (.iconst 0, 1) := by decide +kernel
theorem dX3_roundsRingingAt_1 : decode cX3_roundsRingingAt 1 = .ok (.istore_n 2, 1) := by decide +kernel
theorem dX3_roundsRingingAt_2 : decode cX3_roundsRingingAt 2 = .ok (.iconst 2, 1) := by decide +kernel
theorem dX3_roundsRingingAt_3 : decode cX3_roundsRingingAt 3 = .ok (.istore_n 3, 1) := by decide +kernel
theorem dX3_roundsRingingAt_4 : decode cX3_roundsRingingAt 4 = .ok (.iload_n 3, 1) := by decide +kernel
theorem dX3_roundsRingingAt_5 : decode cX3_roundsRingingAt 5 = .ok (.bipush 20, 2) := by decide +kernel
theorem dX3_roundsRingingAt_7 : decode cX3_roundsRingingAt 7 = .ok (.if_icmp .gt 23, 3) := by decide +kernel
theorem dX3_roundsRingingAt_10 : decode cX3_roundsRingingAt 10 = .ok (.aload_n 0, 1) := by decide +kernel
theorem dX3_roundsRingingAt_11 : decode cX3_roundsRingingAt 11 = .ok (.iload_n 3, 1) := by decide +kernel
theorem dX3_roundsRingingAt_12 : decode cX3_roundsRingingAt 12 = .ok (.iload_n 1, 1) := by decide +kernel
theorem dX3_roundsRingingAt_13 : decode cX3_roundsRingingAt 13 = .ok (.iload_n 3, 1) := by decide +kernel
theorem dX3_roundsRingingAt_14 : decode cX3_roundsRingingAt 14 = .ok (.irem, 1) := by decide +kernel
theorem dX3_roundsRingingAt_15 : decode cX3_roundsRingingAt 15 = .ok (.invokevirtual 27, 3) := by decide +kernel
theorem dX3_roundsRingingAt_18 : decode cX3_roundsRingingAt 18 = .ok (.ifCond .eq 6, 3) := by decide +kernel
theorem dX3_roundsRingingAt_21 : decode cX3_roundsRingingAt 21 = .ok (.iinc 2 1, 3) := by decide +kernel
theorem dX3_roundsRingingAt_24 : decode cX3_roundsRingingAt 24 = .ok (.iinc 3 1, 3) := by decide +kernel
theorem dX3_roundsRingingAt_27 : decode cX3_roundsRingingAt 27 = .ok (.goto (-23), 3) := by decide +kernel
theorem dX3_roundsRingingAt_30 : decode cX3_roundsRingingAt 30 = .ok (.iload_n 2, 1) := by decide +kernel
theorem dX3_roundsRingingAt_31 : decode cX3_roundsRingingAt 31 = .ok (.ireturn, 1) := by decide +kernel
set_option maxRecDepth 20000 in
theorem ggX4_init_X5_init : GoodIn wsX4_init wsX5_init := goodIn_r _ [19, 20, 2, 3, 21, 22, 23, 24, 25, 26, 27, 28, 29, 33, 34, 35, 36, 37, 38, 39, 40] (by decide +kernel) (by decide +kernel)
set_option maxRecDepth 20000 in
theorem gX4_init_X5_init : GoodIn wsX4_init (wsX5_init) := ggX4_init_X5_init
set_option maxRecDepth 20000 in
theorem ggX4_init_X0_init : GoodIn wsX4_init wsX0_init := goodIn_r _ [31, 32, 2, 3] (by decide +kernel) (by decide +kernel)
set_option maxRecDepth 20000 in
theorem gX4_init_X0_init_n36 : GoodIn wsX4_init (wsX0_init) := ggX4_init_X0_init
theorem dX4_init_0 : decode cX4_init 0 = .ok (.aload_n 0, 1) := by decide +kernel
theorem dX4_init_1 : decode cX4_init 1 = .ok (.invokespecial 3, 3) := by decide +kernel
theorem dX4_init_4 : decode cX4_init 4 = .ok (.aload_n 0, 1) := by decide +kernel
theorem dX4_init_5 : decode cX4_init 5 = .ok (.new 9, 3) := by decide +kernel
theorem dX4_init_8 : decode cX4_init 8 = .ok (.dup, 1) := by decide +kernel
theorem dX4_init_9 : decode cX4_init 9 = .ok (.invokespecial 11, 3) := by decide +kernel
theorem dX4_init_12 : decode cX4_init 12 = .ok (.putfield 12, 3) := by decide +kernel
theorem dX4_init_15 : decode cX4_init 15 = .ok (.aload_n 0, 1) := by decide +kernel
theorem dX4_init_16 : decode cX4_init 16 = .ok (.iconst 0, 1) := by decide +kernel
theorem dX4_init_17 : decode cX4_init 17 = .ok (.putfield 18, 3) := by decide +kernel
theorem dX4_init_20 : decode cX4_init 20 = .ok (.aload_n 0, 1) := by decide +kernel
theorem dX4_init_21 : decode cX4_init 21 = .ok (.bipush (-6), 2) := by decide +kernel
theorem dX4_init_23 : decode cX4_init 23 = .ok (.putfield 22, 3) := by decide +kernel
theorem dX4_init_26 : decode cX4_init 26 = .ok (.aload_n 0, 1) := by decide +kernel
theorem dX4_init_27 : decode cX4_init 27 = .ok (.bipush (-6), 2) := by decide +kernel
theorem dX4_init_29 : decode cX4_init 29 = .ok (.putfield 25, 3) := by decide +kernel
theorem dX4_init_32 : decode cX4_init 32 = .ok (.aload_n 0, 1) := by decide +kernel
theorem dX4_init_33 : decode cX4_init 33 = .ok (.bipush (-6), 2) := by decide +kernel
theorem dX4_init_35 : decode cX4_init 35 = .ok (.putfield 28, 3) := by decide +kernel
theorem dX4_init_38 : decode cX4_init 38 = .ok (.aload_n 0, 1) := by decide +kernel
theorem dX4_init_39 : decode cX4_init 39 = .ok (.bipush (-6), 2) := by decide +kernel
theorem dX4_init_41 : decode cX4_init 41 = .ok (.putfield 31, 3) := by decide +kernel
theorem dX4_init_44 : decode cX4_init 44 = .ok (.aload_n 0, 1) := by decide +kernel
theorem dX4_init_45 : decode cX4_init 45 = .ok (.new 34, 3) := by decide +kernel
theorem dX4_init_48 : decode cX4_init 48 = .ok (.dup, 1) := by decide +kernel
theorem dX4_init_49 : decode cX4_init 49 = .ok (.invokespecial 36, 3) := by decide +kernel
theorem dX4_init_52 : decode cX4_init 52 = .ok (.putfield 37, 3) := by decide +kernel
theorem dX4_init_55 : decode cX4_init 55 = .ok (.return_, 1) := by decide +kernel
set_option maxRecDepth 20000 in
theorem ggX4_tell_X5_become : GoodIn wsX4_tell wsX5_become := goodIn_r _ [13, 14, 15, 16, 17, 18, 19, 20, 21, 22, 23, 24, 25, 128, 129, 130, 131, 132, 133, 134, 135] (by decide +kernel) (by decide +kernel)
set_option maxRecDepth 20000 in
theorem gX4_tell_X5_become : GoodIn wsX4_tell (wsV RX4 41 RX5 yX5_become wsX5_become) := goodIn_app (goodIn_of _ (by decide +kernel)) ggX4_tell_X5_become
set_option maxRecDepth 20000 in
theorem ggX4_tell_X2_readAct : GoodIn wsX4_tell wsX2_readAct := goodIn_r _ [30, 31, 32, 33, 34, 35, 36, 29, 37, 38, 39, 40, 41, 42, 43, 44, 45, 46, 47, 48, 49, 50, 51, 52, 53, 136, 137, 138, 126, 127] (by decide +kernel) (by decide +kernel)
set_option maxRecDepth 20000 in
theorem gX4_tell_X2_readAct : GoodIn wsX4_tell (wsV RX4 50 RX2 yX2_readAct wsX2_readAct) := goodIn_app (goodIn_of _ (by decide +kernel)) ggX4_tell_X2_readAct
set_option maxRecDepth 20000 in
theorem ggX4_tell_X5_reasonAgainst : GoodIn wsX4_tell wsX5_reasonAgainst := goodIn_r _ [57, 58, 59, 60, 61, 62, 63, 12, 64, 16, 14, 15, 65, 18, 66, 67, 68, 69, 70, 71, 72, 19, 17, 73, 45, 74, 75, 44, 46, 76, 77, 78, 79, 80, 81, 82, 83, 24, 25, 136, 137, 138, 128, 129, 130, 131, 132, 133, 134, 135] (by decide +kernel) (by decide +kernel)
set_option maxRecDepth 20000 in
theorem gX4_tell_X5_reasonAgainst : GoodIn wsX4_tell (wsV RX4 54 RX5 yX5_reasonAgainst wsX5_reasonAgainst) := goodIn_app (goodIn_of _ (by decide +kernel)) ggX4_tell_X5_reasonAgainst
set_option maxRecDepth 20000 in
theorem ggX4_tell_X5_perform : GoodIn wsX4_tell wsX5_perform := goodIn_r _ [87, 58, 61, 62, 63, 12, 64, 16, 14, 15, 65, 18, 66, 67, 68, 88, 89, 90, 91, 92, 93, 94, 95, 60, 19, 73, 45, 74, 75, 44, 46, 96, 97, 98, 99, 24, 25, 100, 101, 102, 103, 136, 137, 138, 128, 129, 130, 131, 132, 133, 134, 135] (by decide +kernel) (by decide +kernel)
set_option maxRecDepth 20000 in
theorem gX4_tell_X5_perform : GoodIn wsX4_tell (wsV RX4 58 RX5 yX5_perform wsX5_perform) := goodIn_app (goodIn_of _ (by decide +kernel)) ggX4_tell_X5_perform
set_option maxRecDepth 20000 in
theorem ggX4_tell_X4_noteFirstMeeting : GoodIn wsX4_tell wsX4_noteFirstMeeting := goodIn_r _ [108, 8, 109, 5, 1, 110, 6, 2, 111, 112, 113, 12, 114, 19, 115, 40, 41, 42, 116, 117, 118, 73, 45, 74, 75, 44, 46, 119, 120, 121, 122, 123, 124, 125, 136, 137, 138, 128, 129, 130, 131, 132, 133, 134, 135] (by decide +kernel) (by decide +kernel)
set_option maxRecDepth 20000 in
theorem gX4_tell_X4_noteFirstMeeting : GoodIn wsX4_tell (wsV RX4 62 RX4 yX4_noteFirstMeeting wsX4_noteFirstMeeting) := goodIn_app (goodIn_of _ (by decide +kernel)) ggX4_tell_X4_noteFirstMeeting
theorem dX4_tell_0 : decode cX4_tell 0 = .ok (.aload_n 0, 1) := by decide +kernel
theorem dX4_tell_1 : decode cX4_tell 1 = .ok (.getfield 12, 3) := by decide +kernel
theorem dX4_tell_4 : decode cX4_tell 4 = .ok (.aload_n 1, 1) := by decide +kernel
theorem dX4_tell_5 : decode cX4_tell 5 = .ok (.invokevirtual 41, 3) := by decide +kernel
theorem dX4_tell_8 : decode cX4_tell 8 = .ok (.aload_n 0, 1) := by decide +kernel
theorem dX4_tell_9 : decode cX4_tell 9 = .ok (.iconst 0, 1) := by decide +kernel
theorem dX4_tell_10 : decode cX4_tell 10 = .ok (.putfield 18, 3) := by decide +kernel
theorem dX4_tell_13 : decode cX4_tell 13 = .ok (.aload_n 0, 1) := by decide +kernel
theorem dX4_tell_14 : decode cX4_tell 14 = .ok (.bipush (-6), 2) := by decide +kernel
theorem dX4_tell_16 : decode cX4_tell 16 = .ok (.putfield 22, 3) := by decide +kernel
theorem dX4_tell_19 : decode cX4_tell 19 = .ok (.aload_n 0, 1) := by decide +kernel
theorem dX4_tell_20 : decode cX4_tell 20 = .ok (.bipush (-6), 2) := by decide +kernel
theorem dX4_tell_22 : decode cX4_tell 22 = .ok (.putfield 25, 3) := by decide +kernel
theorem dX4_tell_25 : decode cX4_tell 25 = .ok (.aload_n 0, 1) := by decide +kernel
theorem dX4_tell_26 : decode cX4_tell 26 = .ok (.bipush (-6), 2) := by decide +kernel
theorem dX4_tell_28 : decode cX4_tell 28 = .ok (.putfield 28, 3) := by decide +kernel
theorem dX4_tell_31 : decode cX4_tell 31 = .ok (.aload_n 0, 1) := by decide +kernel
theorem dX4_tell_32 : decode cX4_tell 32 = .ok (.bipush (-6), 2) := by decide +kernel
theorem dX4_tell_34 : decode cX4_tell 34 = .ok (.putfield 31, 3) := by decide +kernel
theorem dX4_tell_37 : decode cX4_tell 37 = .ok (.iconst 0, 1) := by decide +kernel
theorem dX4_tell_38 : decode cX4_tell 38 = .ok (.istore_n 3, 1) := by decide +kernel
theorem dX4_tell_39 : decode cX4_tell 39 = .ok (.iload_n 3, 1) := by decide +kernel
theorem dX4_tell_40 : decode cX4_tell 40 = .ok (.aload_n 2, 1) := by decide +kernel
theorem dX4_tell_41 : decode cX4_tell 41 = .ok (.getfield 45, 3) := by decide +kernel
theorem dX4_tell_44 : decode cX4_tell 44 = .ok (.if_icmp .ge 83, 3) := by decide +kernel
theorem dX4_tell_47 : decode cX4_tell 47 = .ok (.aload_n 0, 1) := by decide +kernel
theorem dX4_tell_48 : decode cX4_tell 48 = .ok (.getfield 18, 3) := by decide +kernel
theorem dX4_tell_51 : decode cX4_tell 51 = .ok (.bipush 60, 2) := by decide +kernel
theorem dX4_tell_53 : decode cX4_tell 53 = .ok (.if_icmp .ge 74, 3) := by decide +kernel
theorem dX4_tell_56 : decode cX4_tell 56 = .ok (.aload_n 2, 1) := by decide +kernel
theorem dX4_tell_57 : decode cX4_tell 57 = .ok (.iload_n 3, 1) := by decide +kernel
theorem dX4_tell_58 : decode cX4_tell 58 = .ok (.aload_n 0, 1) := by decide +kernel
theorem dX4_tell_59 : decode cX4_tell 59 = .ok (.getfield 37, 3) := by decide +kernel
theorem dX4_tell_62 : decode cX4_tell 62 = .ok (.invokevirtual 50, 3) := by decide +kernel
theorem dX4_tell_65 : decode cX4_tell 65 = .ok (.istore_n 3, 1) := by decide +kernel
theorem dX4_tell_66 : decode cX4_tell 66 = .ok (.aload_n 0, 1) := by decide +kernel
theorem dX4_tell_67 : decode cX4_tell 67 = .ok (.getfield 12, 3) := by decide +kernel
theorem dX4_tell_70 : decode cX4_tell 70 = .ok (.aload_n 0, 1) := by decide +kernel
theorem dX4_tell_71 : decode cX4_tell 71 = .ok (.getfield 37, 3) := by decide +kernel
theorem dX4_tell_74 : decode cX4_tell 74 = .ok (.invokevirtual 54, 3) := by decide +kernel
theorem dX4_tell_77 : decode cX4_tell 77 = .ok (.istore 4, 2) := by decide +kernel
theorem dX4_tell_79 : decode cX4_tell 79 = .ok (.iload 4, 2) := by decide +kernel
theorem dX4_tell_81 : decode cX4_tell 81 = .ok (.ifCond .eq 18, 3) := by decide +kernel
theorem dX4_tell_84 : decode cX4_tell 84 = .ok (.aload_n 0, 1) := by decide +kernel
theorem dX4_tell_85 : decode cX4_tell 85 = .ok (.aload_n 0, 1) := by decide +kernel
theorem dX4_tell_86 : decode cX4_tell 86 = .ok (.getfield 18, 3) := by decide +kernel
theorem dX4_tell_89 : decode cX4_tell 89 = .ok (.putfield 22, 3) := by decide +kernel
theorem dX4_tell_92 : decode cX4_tell 92 = .ok (.aload_n 0, 1) := by decide +kernel
theorem dX4_tell_93 : decode cX4_tell 93 = .ok (.iload 4, 2) := by decide +kernel
theorem dX4_tell_95 : decode cX4_tell 95 = .ok (.putfield 25, 3) := by decide +kernel
theorem dX4_tell_98 : decode cX4_tell 98 = .ok (.return_, 1) := by decide +kernel
theorem dX4_tell_99 : decode cX4_tell 99 = .ok (.aload_n 0, 1) := by decide +kernel
theorem dX4_tell_100 : decode cX4_tell 100 = .ok (.getfield 12, 3) := by decide +kernel
theorem dX4_tell_103 : decode cX4_tell 103 = .ok (.aload_n 0, 1) := by decide +kernel
theorem dX4_tell_104 : decode cX4_tell 104 = .ok (.getfield 37, 3) := by decide +kernel
theorem dX4_tell_107 : decode cX4_tell 107 = .ok (.invokevirtual 58, 3) := by decide +kernel
theorem dX4_tell_110 : decode cX4_tell 110 = .ok (.aload_n 0, 1) := by decide +kernel
theorem dX4_tell_111 : decode cX4_tell 111 = .ok (.invokevirtual 62, 3) := by decide +kernel
theorem dX4_tell_114 : decode cX4_tell 114 = .ok (.aload_n 0, 1) := by decide +kernel
theorem dX4_tell_115 : decode cX4_tell 115 = .ok (.dup, 1) := by decide +kernel
theorem dX4_tell_116 : decode cX4_tell 116 = .ok (.getfield 18, 3) := by decide +kernel
theorem dX4_tell_119 : decode cX4_tell 119 = .ok (.iconst 1, 1) := by decide +kernel
theorem dX4_tell_120 : decode cX4_tell 120 = .ok (.iadd, 1) := by decide +kernel
theorem dX4_tell_121 : decode cX4_tell 121 = .ok (.putfield 18, 3) := by decide +kernel
theorem dX4_tell_124 : decode cX4_tell 124 = .ok (.goto (-85), 3) := by decide +kernel
theorem dX4_tell_127 : decode cX4_tell 127 = .ok (.return_, 1) := by decide +kernel
set_option maxRecDepth 20000 in
theorem ggX4_noteFirstMeeting_X5_leastTwoWith : GoodIn wsX4_noteFirstMeeting wsX5_leastTwoWith := goodIn_r _ [12, 13, 14, 15, 16, 17, 18, 19, 20, 21, 22, 23, 24, 25, 26, 37, 38, 39, 40, 41, 42, 43, 44] (by decide +kernel) (by decide +kernel)
set_option maxRecDepth 20000 in
theorem gX4_noteFirstMeeting_X5_leastTwoWith : GoodIn wsX4_noteFirstMeeting (wsV RX4 71 RX5 yX5_leastTwoWith wsX5_leastTwoWith) := goodIn_app (goodIn_of _ (by decide +kernel)) ggX4_noteFirstMeeting_X5_leastTwoWith
theorem dX4_noteFirstMeeting_0 : decode cX4_noteFirstMeeting 0 = .ok (.aload_n 0, 1) := by decide +kernel
theorem dX4_noteFirstMeeting_1 : decode cX4_noteFirstMeeting 1 = .ok (.getfield 37, 3) := by decide +kernel
theorem dX4_noteFirstMeeting_4 : decode cX4_noteFirstMeeting 4 = .ok (.getfield 65, 3) := by decide +kernel
theorem dX4_noteFirstMeeting_7 : decode cX4_noteFirstMeeting 7 = .ok (.bipush 40, 2) := by decide +kernel
theorem dX4_noteFirstMeeting_9 : decode cX4_noteFirstMeeting 9 = .ok (.if_icmp .eq 27, 3) := by decide +kernel
theorem dX4_noteFirstMeeting_12 : decode cX4_noteFirstMeeting 12 = .ok (.aload_n 0, 1) := by decide +kernel
theorem dX4_noteFirstMeeting_13 : decode cX4_noteFirstMeeting 13 = .ok (.getfield 37, 3) := by decide +kernel
theorem dX4_noteFirstMeeting_16 : decode cX4_noteFirstMeeting 16 = .ok (.getfield 65, 3) := by decide +kernel
theorem dX4_noteFirstMeeting_19 : decode cX4_noteFirstMeeting 19 = .ok (.bipush 62, 2) := by decide +kernel
theorem dX4_noteFirstMeeting_21 : decode cX4_noteFirstMeeting 21 = .ok (.if_icmp .eq 15, 3) := by decide +kernel
theorem dX4_noteFirstMeeting_24 : decode cX4_noteFirstMeeting 24 = .ok (.aload_n 0, 1) := by decide +kernel
theorem dX4_noteFirstMeeting_25 : decode cX4_noteFirstMeeting 25 = .ok (.getfield 37, 3) := by decide +kernel
theorem dX4_noteFirstMeeting_28 : decode cX4_noteFirstMeeting 28 = .ok (.getfield 65, 3) := by decide +kernel
theorem dX4_noteFirstMeeting_31 : decode cX4_noteFirstMeeting 31 = .ok (.bipush 60, 2) := by decide +kernel
theorem dX4_noteFirstMeeting_33 : decode cX4_noteFirstMeeting 33 = .ok (.if_icmp .ne 7, 3) := by decide +kernel
theorem dX4_noteFirstMeeting_36 : decode cX4_noteFirstMeeting 36 = .ok (.iconst 1, 1) := by decide +kernel
theorem dX4_noteFirstMeeting_37 : decode cX4_noteFirstMeeting 37 = .ok (.goto 4, 3) := by decide +kernel
theorem dX4_noteFirstMeeting_40 : decode cX4_noteFirstMeeting 40 = .ok (.iconst 0, 1) := by decide +kernel
theorem dX4_noteFirstMeeting_41 : decode cX4_noteFirstMeeting 41 = .ok (.istore_n 1, 1) := by decide +kernel
theorem dX4_noteFirstMeeting_42 : decode cX4_noteFirstMeeting 42 = .ok (.aload_n 0, 1) := by decide +kernel
theorem dX4_noteFirstMeeting_43 : decode cX4_noteFirstMeeting 43 = .ok (.getfield 28, 3) := by decide +kernel
theorem dX4_noteFirstMeeting_46 : decode cX4_noteFirstMeeting 46 = .ok (.bipush (-6), 2) := by decide +kernel
theorem dX4_noteFirstMeeting_48 : decode cX4_noteFirstMeeting 48 = .ok (.if_icmp .ne 7, 3) := by decide +kernel
theorem dX4_noteFirstMeeting_51 : decode cX4_noteFirstMeeting 51 = .ok (.iload_n 1, 1) := by decide +kernel
theorem dX4_noteFirstMeeting_52 : decode cX4_noteFirstMeeting 52 = .ok (.ifCond .ne 4, 3) := by decide +kernel
theorem dX4_noteFirstMeeting_55 : decode cX4_noteFirstMeeting 55 = .ok (.return_, 1) := by decide +kernel
theorem dX4_noteFirstMeeting_56 : decode cX4_noteFirstMeeting 56 = .ok (.aload_n 0, 1) := by decide +kernel
theorem dX4_noteFirstMeeting_57 : decode cX4_noteFirstMeeting 57 = .ok (.aload_n 0, 1) := by decide +kernel
theorem dX4_noteFirstMeeting_58 : decode cX4_noteFirstMeeting 58 = .ok (.getfield 12, 3) := by decide +kernel
theorem dX4_noteFirstMeeting_61 : decode cX4_noteFirstMeeting 61 = .ok (.aload_n 0, 1) := by decide +kernel
theorem dX4_noteFirstMeeting_62 : decode cX4_noteFirstMeeting 62 = .ok (.getfield 37, 3) := by decide +kernel
theorem dX4_noteFirstMeeting_65 : decode cX4_noteFirstMeeting 65 = .ok (.getfield 68, 3) := by decide +kernel
theorem dX4_noteFirstMeeting_68 : decode cX4_noteFirstMeeting 68 = .ok (.invokevirtual 71, 3) := by decide +kernel
theorem dX4_noteFirstMeeting_71 : decode cX4_noteFirstMeeting 71 = .ok (.putfield 31, 3) := by decide +kernel
theorem dX4_noteFirstMeeting_74 : decode cX4_noteFirstMeeting 74 = .ok (.aload_n 0, 1) := by decide +kernel
theorem dX4_noteFirstMeeting_75 : decode cX4_noteFirstMeeting 75 = .ok (.getfield 31, 3) := by decide +kernel
theorem dX4_noteFirstMeeting_78 : decode cX4_noteFirstMeeting 78 = .ok (.bipush (-6), 2) := by decide +kernel
theorem dX4_noteFirstMeeting_80 : decode cX4_noteFirstMeeting 80 = .ok (.if_icmp .eq 11, 3) := by decide +kernel
theorem dX4_noteFirstMeeting_83 : decode cX4_noteFirstMeeting 83 = .ok (.aload_n 0, 1) := by decide +kernel
theorem dX4_noteFirstMeeting_84 : decode cX4_noteFirstMeeting 84 = .ok (.aload_n 0, 1) := by decide +kernel
theorem dX4_noteFirstMeeting_85 : decode cX4_noteFirstMeeting 85 = .ok (.getfield 18, 3) := by decide +kernel
theorem dX4_noteFirstMeeting_88 : decode cX4_noteFirstMeeting 88 = .ok (.putfield 28, 3) := by decide +kernel
theorem dX4_noteFirstMeeting_91 : decode cX4_noteFirstMeeting 91 = .ok (.return_, 1) := by decide +kernel
set_option maxRecDepth 20000 in
theorem ggX4_tellByDraws_X5_become : GoodIn wsX4_tellByDraws wsX5_become := goodIn_r _ [8, 9, 10, 11, 12, 13, 14, 15, 16, 17, 18, 19, 20, 89, 90, 91, 92, 93, 94, 95, 96] (by decide +kernel) (by decide +kernel)
set_option maxRecDepth 20000 in
theorem gX4_tellByDraws_X5_become : GoodIn wsX4_tellByDraws (wsV RX4 41 RX5 yX5_become wsX5_become) := goodIn_app (goodIn_of _ (by decide +kernel)) ggX4_tellByDraws_X5_become
set_option maxRecDepth 20000 in
theorem ggX4_tellByDraws_X0_becomeDrawn : GoodIn wsX4_tellByDraws wsX0_becomeDrawn := goodIn_r _ [25, 26, 27, 28, 97, 98, 99] (by decide +kernel) (by decide +kernel)
set_option maxRecDepth 20000 in
theorem gX4_tellByDraws_X0_becomeDrawn : GoodIn wsX4_tellByDraws (wsV RX4 76 RX0 yX0_becomeDrawn wsX0_becomeDrawn) := goodIn_app (goodIn_of _ (by decide +kernel)) ggX4_tellByDraws_X0_becomeDrawn
set_option maxRecDepth 20000 in
theorem ggX4_tellByDraws_X5_reasonAgainst : GoodIn wsX4_tellByDraws wsX5_reasonAgainst := goodIn_r _ [32, 33, 34, 35, 36, 37, 38, 7, 39, 11, 9, 10, 40, 13, 41, 42, 43, 44, 45, 46, 47, 14, 12, 48, 49, 50, 51, 52, 53, 54, 55, 56, 57, 58, 59, 60, 61, 19, 20, 97, 98, 99, 89, 90, 91, 92, 93, 94, 95, 96] (by decide +kernel) (by decide +kernel)
set_option maxRecDepth 20000 in
theorem gX4_tellByDraws_X5_reasonAgainst : GoodIn wsX4_tellByDraws (wsV RX4 54 RX5 yX5_reasonAgainst wsX5_reasonAgainst) := goodIn_app (goodIn_of _ (by decide +kernel)) ggX4_tellByDraws_X5_reasonAgainst
set_option maxRecDepth 20000 in
theorem ggX4_tellByDraws_X5_perform : GoodIn wsX4_tellByDraws wsX5_perform := goodIn_r _ [65, 33, 36, 37, 38, 7, 39, 11, 9, 10, 40, 13, 41, 42, 43, 66, 67, 68, 69, 70, 71, 72, 73, 35, 14, 48, 49, 50, 51, 52, 53, 74, 75, 76, 77, 19, 20, 78, 79, 80, 81, 97, 98, 99, 89, 90, 91, 92, 93, 94, 95, 96] (by decide +kernel) (by decide +kernel)
set_option maxRecDepth 20000 in
theorem gX4_tellByDraws_X5_perform : GoodIn wsX4_tellByDraws (wsV RX4 58 RX5 yX5_perform wsX5_perform) := goodIn_app (goodIn_of _ (by decide +kernel)) ggX4_tellByDraws_X5_perform
theorem dX4_tellByDraws_0 : decode cX4_tellByDraws 0 = .ok (.aload_n 0, 1) := by decide +kernel
theorem dX4_tellByDraws_1 : decode cX4_tellByDraws 1 = .ok (.getfield 12, 3) := by decide +kernel
theorem dX4_tellByDraws_4 : decode cX4_tellByDraws 4 = .ok (.aload_n 1, 1) := by decide +kernel
theorem dX4_tellByDraws_5 : decode cX4_tellByDraws 5 = .ok (.invokevirtual 41, 3) := by decide +kernel
theorem dX4_tellByDraws_8 : decode cX4_tellByDraws 8 = .ok (.iload_n 2, 1) := by decide +kernel
theorem dX4_tellByDraws_9 : decode cX4_tellByDraws 9 = .ok (.istore 4, 2) := by decide +kernel
theorem dX4_tellByDraws_11 : decode cX4_tellByDraws 11 = .ok (.iconst 0, 1) := by decide +kernel
theorem dX4_tellByDraws_12 : decode cX4_tellByDraws 12 = .ok (.istore 5, 2) := by decide +kernel
theorem dX4_tellByDraws_14 : decode cX4_tellByDraws 14 = .ok (.iload 5, 2) := by decide +kernel
theorem dX4_tellByDraws_16 : decode cX4_tellByDraws 16 = .ok (.iload_n 3, 1) := by decide +kernel
theorem dX4_tellByDraws_17 : decode cX4_tellByDraws 17 = .ok (.if_icmp .ge 56, 3) := by decide +kernel
theorem dX4_tellByDraws_20 : decode cX4_tellByDraws 20 = .ok (.bipush 75, 2) := by decide +kernel
theorem dX4_tellByDraws_22 : decode cX4_tellByDraws 22 = .ok (.iload 4, 2) := by decide +kernel
theorem dX4_tellByDraws_24 : decode cX4_tellByDraws 24 = .ok (.imul, 1) := by decide +kernel
theorem dX4_tellByDraws_25 : decode cX4_tellByDraws 25 = .ok (.bipush 74, 2) := by decide +kernel
theorem dX4_tellByDraws_27 : decode cX4_tellByDraws 27 = .ok (.iadd, 1) := by decide +kernel
theorem dX4_tellByDraws_28 : decode cX4_tellByDraws 28 = .ok (.ldc 75, 2) := by decide +kernel
theorem dX4_tellByDraws_30 : decode cX4_tellByDraws 30 = .ok (.irem, 1) := by decide +kernel
theorem dX4_tellByDraws_31 : decode cX4_tellByDraws 31 = .ok (.istore 4, 2) := by decide +kernel
theorem dX4_tellByDraws_33 : decode cX4_tellByDraws 33 = .ok (.aload_n 0, 1) := by decide +kernel
theorem dX4_tellByDraws_34 : decode cX4_tellByDraws 34 = .ok (.getfield 37, 3) := by decide +kernel
theorem dX4_tellByDraws_37 : decode cX4_tellByDraws 37 = .ok (.iload 4, 2) := by decide +kernel
theorem dX4_tellByDraws_39 : decode cX4_tellByDraws 39 = .ok (.invokevirtual 76, 3) := by decide +kernel
theorem dX4_tellByDraws_42 : decode cX4_tellByDraws 42 = .ok (.aload_n 0, 1) := by decide +kernel
theorem dX4_tellByDraws_43 : decode cX4_tellByDraws 43 = .ok (.getfield 12, 3) := by decide +kernel
theorem dX4_tellByDraws_46 : decode cX4_tellByDraws 46 = .ok (.aload_n 0, 1) := by decide +kernel
theorem dX4_tellByDraws_47 : decode cX4_tellByDraws 47 = .ok (.getfield 37, 3) := by decide +kernel
theorem dX4_tellByDraws_50 : decode cX4_tellByDraws 50 = .ok (.invokevirtual 54, 3) := by decide +kernel
theorem dX4_tellByDraws_53 : decode cX4_tellByDraws 53 = .ok (.ifCond .ne 14, 3) := by decide +kernel
theorem dX4_tellByDraws_56 : decode cX4_tellByDraws 56 = .ok (.aload_n 0, 1) := by decide +kernel
theorem dX4_tellByDraws_57 : decode cX4_tellByDraws 57 = .ok (.getfield 12, 3) := by decide +kernel
theorem dX4_tellByDraws_60 : decode cX4_tellByDraws 60 = .ok (.aload_n 0, 1) := by decide +kernel
theorem dX4_tellByDraws_61 : decode cX4_tellByDraws 61 = .ok (.getfield 37, 3) := by decide +kernel
theorem dX4_tellByDraws_64 : decode cX4_tellByDraws 64 = .ok (.invokevirtual 58, 3) := by decide +kernel
theorem dX4_tellByDraws_67 : decode cX4_tellByDraws 67 = .ok (.iinc 5 1, 3) := by decide +kernel
theorem dX4_tellByDraws_70 : decode cX4_tellByDraws 70 = .ok (.goto (-56), 3) := by decide +kernel
theorem dX4_tellByDraws_73 : decode cX4_tellByDraws 73 = .ok (.return_, 1) := by decide +kernel
theorem dX5_init_0 : decode cX5_init 0 = .ok (.aload_n 0, 1) := by decide +kernel
theorem dX5_init_1 : decode cX5_init 1 = .ok (.invokespecial 3, 3) := by decide +kernel
theorem dX5_init_4 : decode cX5_init 4 = .ok (.aload_n 0, 1) := by decide +kernel
theorem dX5_init_5 : decode cX5_init 5 = .ok (.iconst 0, 1) := by decide +kernel
theorem dX5_init_6 : decode cX5_init 6 = .ok (.putfield 9, 3) := by decide +kernel
theorem dX5_init_9 : decode cX5_init 9 = .ok (.aload_n 0, 1) := by decide +kernel
theorem dX5_init_10 : decode cX5_init 10 = .ok (.iconst 0, 1) := by decide +kernel
theorem dX5_init_11 : decode cX5_init 11 = .ok (.putfield 15, 3) := by decide +kernel
theorem dX5_init_14 : decode cX5_init 14 = .ok (.aload_n 0, 1) := by decide +kernel
theorem dX5_init_15 : decode cX5_init 15 = .ok (.iconst 0, 1) := by decide +kernel
theorem dX5_init_16 : decode cX5_init 16 = .ok (.putfield 18, 3) := by decide +kernel
theorem dX5_init_19 : decode cX5_init 19 = .ok (.aload_n 0, 1) := by decide +kernel
theorem dX5_init_20 : decode cX5_init 20 = .ok (.bipush 11, 2) := by decide +kernel
theorem dX5_init_22 : decode cX5_init 22 = .ok (.putfield 21, 3) := by decide +kernel
theorem dX5_init_25 : decode cX5_init 25 = .ok (.aload_n 0, 1) := by decide +kernel
theorem dX5_init_26 : decode cX5_init 26 = .ok (.sipush 358, 3) := by decide +kernel
theorem dX5_init_29 : decode cX5_init 29 = .ok (.putfield 24, 3) := by decide +kernel
theorem dX5_init_32 : decode cX5_init 32 = .ok (.aload_n 0, 1) := by decide +kernel
theorem dX5_init_33 : decode cX5_init 33 = .ok (.bipush 6, 2) := by decide +kernel
theorem dX5_init_35 : decode cX5_init 35 = .ok (.newarray .int, 2) := by decide +kernel
theorem dX5_init_37 : decode cX5_init 37 = .ok (.putfield 27, 3) := by decide +kernel
theorem dX5_init_40 : decode cX5_init 40 = .ok (.aload_n 0, 1) := by decide +kernel
theorem dX5_init_41 : decode cX5_init 41 = .ok (.bipush 6, 2) := by decide +kernel
theorem dX5_init_43 : decode cX5_init 43 = .ok (.newarray .int, 2) := by decide +kernel
theorem dX5_init_45 : decode cX5_init 45 = .ok (.putfield 31, 3) := by decide +kernel
theorem dX5_init_48 : decode cX5_init 48 = .ok (.aload_n 0, 1) := by decide +kernel
theorem dX5_init_49 : decode cX5_init 49 = .ok (.bipush 30, 2) := by decide +kernel
theorem dX5_init_51 : decode cX5_init 51 = .ok (.newarray .int, 2) := by decide +kernel
theorem dX5_init_53 : decode cX5_init 53 = .ok (.putfield 34, 3) := by decide +kernel
theorem dX5_init_56 : decode cX5_init 56 = .ok (.iconst 0, 1) := by decide +kernel
theorem dX5_init_57 : decode cX5_init 57 = .ok (.istore_n 1, 1) := by decide +kernel
theorem dX5_init_58 : decode cX5_init 58 = .ok (.iload_n 1, 1) := by decide +kernel
theorem dX5_init_59 : decode cX5_init 59 = .ok (.bipush 6, 2) := by decide +kernel
theorem dX5_init_61 : decode cX5_init 61 = .ok (.if_icmp .ge 25, 3) := by decide +kernel
theorem dX5_init_64 : decode cX5_init 64 = .ok (.aload_n 0, 1) := by decide +kernel
theorem dX5_init_65 : decode cX5_init 65 = .ok (.getfield 27, 3) := by decide +kernel
theorem dX5_init_68 : decode cX5_init 68 = .ok (.iload_n 1, 1) := by decide +kernel
theorem dX5_init_69 : decode cX5_init 69 = .ok (.bipush (-6), 2) := by decide +kernel
theorem dX5_init_71 : decode cX5_init 71 = .ok (.iastore, 1) := by decide +kernel
theorem dX5_init_72 : decode cX5_init 72 = .ok (.aload_n 0, 1) := by decide +kernel
theorem dX5_init_73 : decode cX5_init 73 = .ok (.getfield 31, 3) := by decide +kernel
theorem dX5_init_76 : decode cX5_init 76 = .ok (.iload_n 1, 1) := by decide +kernel
theorem dX5_init_77 : decode cX5_init 77 = .ok (.bipush 10, 2) := by decide +kernel
theorem dX5_init_79 : decode cX5_init 79 = .ok (.iastore, 1) := by decide +kernel
theorem dX5_init_80 : decode cX5_init 80 = .ok (.iinc 1 1, 3) := by decide +kernel
theorem dX5_init_83 : decode cX5_init 83 = .ok (.goto (-25), 3) := by decide +kernel
theorem dX5_init_86 : decode cX5_init 86 = .ok (.return_, 1) := by decide +kernel
theorem dX5_become_0 : decode cX5_become 0 = .ok (.aload_n 0, 1) := by decide +kernel
theorem dX5_become_1 : decode cX5_become 1 = .ok (.aload_n 1, 1) := by decide +kernel
theorem dX5_become_2 : decode cX5_become 2 = .ok (.getfield 9, 3) := by decide +kernel
theorem dX5_become_5 : decode cX5_become 5 = .ok (.putfield 9, 3) := by decide +kernel
theorem dX5_become_8 : decode cX5_become 8 = .ok (.aload_n 0, 1) := by decide +kernel
theorem dX5_become_9 : decode cX5_become 9 = .ok (.aload_n 1, 1) := by decide +kernel
theorem dX5_become_10 : decode cX5_become 10 = .ok (.getfield 15, 3) := by decide +kernel
theorem dX5_become_13 : decode cX5_become 13 = .ok (.putfield 15, 3) := by decide +kernel
theorem dX5_become_16 : decode cX5_become 16 = .ok (.aload_n 0, 1) := by decide +kernel
theorem dX5_become_17 : decode cX5_become 17 = .ok (.aload_n 1, 1) := by decide +kernel
theorem dX5_become_18 : decode cX5_become 18 = .ok (.getfield 18, 3) := by decide +kernel
theorem dX5_become_21 : decode cX5_become 21 = .ok (.putfield 18, 3) := by decide +kernel
theorem dX5_become_24 : decode cX5_become 24 = .ok (.aload_n 0, 1) := by decide +kernel
theorem dX5_become_25 : decode cX5_become 25 = .ok (.aload_n 1, 1) := by decide +kernel
theorem dX5_become_26 : decode cX5_become 26 = .ok (.getfield 21, 3) := by decide +kernel
theorem dX5_become_29 : decode cX5_become 29 = .ok (.putfield 21, 3) := by decide +kernel
theorem dX5_become_32 : decode cX5_become 32 = .ok (.aload_n 0, 1) := by decide +kernel
theorem dX5_become_33 : decode cX5_become 33 = .ok (.aload_n 1, 1) := by decide +kernel
theorem dX5_become_34 : decode cX5_become 34 = .ok (.getfield 24, 3) := by decide +kernel
theorem dX5_become_37 : decode cX5_become 37 = .ok (.putfield 24, 3) := by decide +kernel
theorem dX5_become_40 : decode cX5_become 40 = .ok (.aload_n 1, 1) := by decide +kernel
theorem dX5_become_41 : decode cX5_become 41 = .ok (.getfield 27, 3) := by decide +kernel
theorem dX5_become_44 : decode cX5_become 44 = .ok (.iconst 0, 1) := by decide +kernel
theorem dX5_become_45 : decode cX5_become 45 = .ok (.aload_n 0, 1) := by decide +kernel
theorem dX5_become_46 : decode cX5_become 46 = .ok (.getfield 27, 3) := by decide +kernel
theorem dX5_become_49 : decode cX5_become 49 = .ok (.iconst 0, 1) := by decide +kernel
theorem dX5_become_50 : decode cX5_become 50 = .ok (.bipush 6, 2) := by decide +kernel
theorem dX5_become_52 : decode cX5_become 52 = .ok (.invokestatic 37, 3) := by decide +kernel
theorem dX5_become_55 : decode cX5_become 55 = .ok (.aload_n 1, 1) := by decide +kernel
theorem dX5_become_56 : decode cX5_become 56 = .ok (.getfield 31, 3) := by decide +kernel
theorem dX5_become_59 : decode cX5_become 59 = .ok (.iconst 0, 1) := by decide +kernel
theorem dX5_become_60 : decode cX5_become 60 = .ok (.aload_n 0, 1) := by decide +kernel
theorem dX5_become_61 : decode cX5_become 61 = .ok (.getfield 31, 3) := by decide +kernel
theorem dX5_become_64 : decode cX5_become 64 = .ok (.iconst 0, 1) := by decide +kernel
theorem dX5_become_65 : decode cX5_become 65 = .ok (.bipush 6, 2) := by decide +kernel
theorem dX5_become_67 : decode cX5_become 67 = .ok (.invokestatic 37, 3) := by decide +kernel
theorem dX5_become_70 : decode cX5_become 70 = .ok (.aload_n 1, 1) := by decide +kernel
theorem dX5_become_71 : decode cX5_become 71 = .ok (.getfield 34, 3) := by decide +kernel
theorem dX5_become_74 : decode cX5_become 74 = .ok (.iconst 0, 1) := by decide +kernel
theorem dX5_become_75 : decode cX5_become 75 = .ok (.aload_n 0, 1) := by decide +kernel
theorem dX5_become_76 : decode cX5_become 76 = .ok (.getfield 34, 3) := by decide +kernel
theorem dX5_become_79 : decode cX5_become 79 = .ok (.iconst 0, 1) := by decide +kernel
theorem dX5_become_80 : decode cX5_become 80 = .ok (.bipush 30, 2) := by decide +kernel
theorem dX5_become_82 : decode cX5_become 82 = .ok (.invokestatic 37, 3) := by decide +kernel
theorem dX5_become_85 : decode cX5_become 85 = .ok (.return_, 1) := by decide +kernel
theorem dX5_dateByNewCount_0 : decode cX5_dateByNewCount 0 = .ok (.aload_n 0, 1) := by decide +kernel
theorem dX5_dateByNewCount_1 : decode cX5_dateByNewCount 1 = .ok (.getfield 9, 3) := by decide +kernel
theorem dX5_dateByNewCount_4 : decode cX5_dateByNewCount 4 = .ok (.aload_n 0, 1) := by decide +kernel
theorem dX5_dateByNewCount_5 : decode cX5_dateByNewCount 5 = .ok (.getfield 21, 3) := by decide +kernel
theorem dX5_dateByNewCount_8 : decode cX5_dateByNewCount 8 = .ok (.iadd, 1) := by decide +kernel
theorem dX5_dateByNewCount_9 : decode cX5_dateByNewCount 9 = .ok (.sipush 365, 3) := by decide +kernel
theorem dX5_dateByNewCount_12 : decode cX5_dateByNewCount 12 = .ok (.irem, 1) := by decide +kernel
theorem dX5_dateByNewCount_13 : decode cX5_dateByNewCount 13 = .ok (.ireturn, 1) := by decide +kernel
theorem dX5_whoIsWithin_0 : decode cX5_whoIsWithin 0 = .ok (.iconst 0, 1) := by decide +kernel
theorem dX5_whoIsWithin_1 : decode cX5_whoIsWithin 1 = .ok (.istore_n 1, 1) := by decide +kernel
theorem dX5_whoIsWithin_2 : decode cX5_whoIsWithin 2 = .ok (.iconst 0, 1) := by decide +kernel
theorem dX5_whoIsWithin_3 : decode cX5_whoIsWithin 3 = .ok (.istore_n 2, 1) := by decide +kernel
theorem dX5_whoIsWithin_4 : decode cX5_whoIsWithin 4 = .ok (.iload_n 2, 1) := by decide +kernel
theorem dX5_whoIsWithin_5 : decode cX5_whoIsWithin 5 = .ok (.bipush 6, 2) := by decide +kernel
theorem dX5_whoIsWithin_7 : decode cX5_whoIsWithin 7 = .ok (.if_icmp .ge 26, 3) := by decide +kernel
theorem dX5_whoIsWithin_10 : decode cX5_whoIsWithin 10 = .ok (.aload_n 0, 1) := by decide +kernel
theorem dX5_whoIsWithin_11 : decode cX5_whoIsWithin 11 = .ok (.getfield 27, 3) := by decide +kernel
theorem dX5_whoIsWithin_14 : decode cX5_whoIsWithin 14 = .ok (.iload_n 2, 1) := by decide +kernel
theorem dX5_whoIsWithin_15 : decode cX5_whoIsWithin 15 = .ok (.iaload, 1) := by decide +kernel
theorem dX5_whoIsWithin_16 : decode cX5_whoIsWithin 16 = .ok (.bipush (-6), 2) := by decide +kernel
theorem dX5_whoIsWithin_18 : decode cX5_whoIsWithin 18 = .ok (.if_icmp .eq 9, 3) := by decide +kernel
theorem dX5_whoIsWithin_21 : decode cX5_whoIsWithin 21 = .ok (.iload_n 1, 1) := by decide +kernel
theorem dX5_whoIsWithin_22 : decode cX5_whoIsWithin 22 = .ok (.iconst 1, 1) := by decide +kernel
theorem dX5_whoIsWithin_23 : decode cX5_whoIsWithin 23 = .ok (.iload_n 2, 1) := by decide +kernel
theorem dX5_whoIsWithin_24 : decode cX5_whoIsWithin 24 = .ok (.ishl, 1) := by decide +kernel
theorem dX5_whoIsWithin_25 : decode cX5_whoIsWithin 25 = .ok (.ior, 1) := by decide +kernel
theorem dX5_whoIsWithin_26 : decode cX5_whoIsWithin 26 = .ok (.istore_n 1, 1) := by decide +kernel
theorem dX5_whoIsWithin_27 : decode cX5_whoIsWithin 27 = .ok (.iinc 2 1, 3) := by decide +kernel
theorem dX5_whoIsWithin_30 : decode cX5_whoIsWithin 30 = .ok (.goto (-26), 3) := by decide +kernel
theorem dX5_whoIsWithin_33 : decode cX5_whoIsWithin 33 = .ok (.iload_n 1, 1) := by decide +kernel
theorem dX5_whoIsWithin_34 : decode cX5_whoIsWithin 34 = .ok (.ireturn, 1) := by decide +kernel
theorem dX5_liesInAll_0 : decode cX5_liesInAll 0 = .ok (.iconst 0, 1) := by decide +kernel
theorem dX5_liesInAll_1 : decode cX5_liesInAll 1 = .ok (.istore_n 1, 1) := by decide +kernel
theorem dX5_liesInAll_2 : decode cX5_liesInAll 2 = .ok (.iconst 0, 1) := by decide +kernel
theorem dX5_liesInAll_3 : decode cX5_liesInAll 3 = .ok (.istore_n 2, 1) := by decide +kernel
theorem dX5_liesInAll_4 : decode cX5_liesInAll 4 = .ok (.iload_n 2, 1) := by decide +kernel
theorem dX5_liesInAll_5 : decode cX5_liesInAll 5 = .ok (.bipush 30, 2) := by decide +kernel
theorem dX5_liesInAll_7 : decode cX5_liesInAll 7 = .ok (.if_icmp .ge 18, 3) := by decide +kernel
theorem dX5_liesInAll_10 : decode cX5_liesInAll 10 = .ok (.iload_n 1, 1) := by decide +kernel
theorem dX5_liesInAll_11 : decode cX5_liesInAll 11 = .ok (.aload_n 0, 1) := by decide +kernel
theorem dX5_liesInAll_12 : decode cX5_liesInAll 12 = .ok (.getfield 34, 3) := by decide +kernel
theorem dX5_liesInAll_15 : decode cX5_liesInAll 15 = .ok (.iload_n 2, 1) := by decide +kernel
theorem dX5_liesInAll_16 : decode cX5_liesInAll 16 = .ok (.iaload, 1) := by decide +kernel
theorem dX5_liesInAll_17 : decode cX5_liesInAll 17 = .ok (.iadd, 1) := by decide +kernel
theorem dX5_liesInAll_18 : decode cX5_liesInAll 18 = .ok (.istore_n 1, 1) := by decide +kernel
theorem dX5_liesInAll_19 : decode cX5_liesInAll 19 = .ok (.iinc 2 1, 3) := by decide +kernel
theorem dX5_liesInAll_22 : decode cX5_liesInAll 22 = .ok (.goto (-18), 3) := by decide +kernel
theorem dX5_liesInAll_25 : decode cX5_liesInAll 25 = .ok (.iload_n 1, 1) := by decide +kernel
theorem dX5_liesInAll_26 : decode cX5_liesInAll 26 = .ok (.ireturn, 1) := by decide +kernel
theorem dX5_kneelNow_0 : decode cX5_kneelNow 0 = .ok (.aload_n 0, 1) := by decide +kernel
theorem dX5_kneelNow_1 : decode cX5_kneelNow 1 = .ok (.getfield 9, 3) := by decide +kernel
theorem dX5_kneelNow_4 : decode cX5_kneelNow 4 = .ok (.aload_n 0, 1) := by decide +kernel
theorem dX5_kneelNow_5 : decode cX5_kneelNow 5 = .ok (.getfield 24, 3) := by decide +kernel
theorem dX5_kneelNow_8 : decode cX5_kneelNow 8 = .ok (.if_icmp .ne 14, 3) := by decide +kernel
theorem dX5_kneelNow_11 : decode cX5_kneelNow 11 = .ok (.aload_n 0, 1) := by decide +kernel
theorem dX5_kneelNow_12 : decode cX5_kneelNow 12 = .ok (.getfield 15, 3) := by decide +kernel
theorem dX5_kneelNow_15 : decode cX5_kneelNow 15 = .ok (.ifCond .ne 7, 3) := by decide +kernel
theorem dX5_kneelNow_18 : decode cX5_kneelNow 18 = .ok (.iconst 1, 1) := by decide +kernel
theorem dX5_kneelNow_19 : decode cX5_kneelNow 19 = .ok (.goto 4, 3) := by decide +kernel
theorem dX5_kneelNow_22 : decode cX5_kneelNow 22 = .ok (.iconst 0, 1) := by decide +kernel
theorem dX5_kneelNow_23 : decode cX5_kneelNow 23 = .ok (.ireturn, 1) := by decide +kernel
set_option maxRecDepth 20000 in
theorem ggX5_reasonAgainst_X5_timeBehind : GoodIn wsX5_reasonAgainst wsX5_timeBehind := goodIn_r _ [8, 1, 9, 10, 11, 12, 13, 14, 15, 7, 16, 39, 40, 41, 42, 43, 44, 45, 46, 47, 48, 49] (by decide +kernel) (by decide +kernel)
set_option maxRecDepth 20000 in
theorem gX5_reasonAgainst_X5_timeBehind : GoodIn wsX5_reasonAgainst (wsV RX5 48 RX5 yX5_timeBehind wsX5_timeBehind) := goodIn_app (goodIn_of _ (by decide +kernel)) ggX5_reasonAgainst_X5_timeBehind
set_option maxRecDepth 20000 in
theorem ggX5_reasonAgainst_X5_reasonAgainstSteppingOver : GoodIn wsX5_reasonAgainst wsX5_reasonAgainstSteppingOver := goodIn_r _ [20, 21, 22, 23, 24, 25, 26, 27, 28, 29, 30, 31, 7, 32, 10, 13, 11, 42, 43, 44, 45, 46, 47, 48, 49] (by decide +kernel) (by decide +kernel)
set_option maxRecDepth 20000 in
theorem gX5_reasonAgainst_X5_reasonAgainstSteppingOver : GoodIn wsX5_reasonAgainst (wsV RX5 56 RX5 yX5_reasonAgainstSteppingOver wsX5_reasonAgainstSteppingOver) := goodIn_app (goodIn_of _ (by decide +kernel)) ggX5_reasonAgainst_X5_reasonAgainstSteppingOver
set_option maxRecDepth 20000 in
theorem ggX5_reasonAgainst_X5_reasonAgainstActWithin : GoodIn wsX5_reasonAgainst wsX5_reasonAgainstActWithin := goodIn_r _ [36, 3, 21, 1, 22, 37, 12, 38, 23, 24, 25, 26, 27, 28, 29, 30, 31, 7, 32, 10, 13, 11, 39, 40, 41, 42, 43, 44, 45, 46, 47, 48, 49] (by decide +kernel) (by decide +kernel)
set_option maxRecDepth 20000 in
theorem gX5_reasonAgainst_X5_reasonAgainstActWithin : GoodIn wsX5_reasonAgainst (wsV RX5 60 RX5 yX5_reasonAgainstActWithin wsX5_reasonAgainstActWithin) := goodIn_app (goodIn_of _ (by decide +kernel)) ggX5_reasonAgainst_X5_reasonAgainstActWithin
theorem dX5_reasonAgainst_0 : decode cX5_reasonAgainst 0 = .ok (.aload_n 1, 1) := by decide +kernel
theorem dX5_reasonAgainst_1 : decode cX5_reasonAgainst 1 = .ok (.getfield 43, 3) := by decide +kernel
theorem dX5_reasonAgainst_4 : decode cX5_reasonAgainst 4 = .ok (.lookupswitch 70 #[(40, 61), (100, 44), (104, 44), (107, 44)], 44) := by decide +kernel
theorem dX5_reasonAgainst_48 : decode cX5_reasonAgainst 48 = .ok (.aload_n 0, 1) := by decide +kernel
theorem dX5_reasonAgainst_49 : decode cX5_reasonAgainst 49 = .ok (.aload_n 1, 1) := by decide +kernel
theorem dX5_reasonAgainst_50 : decode cX5_reasonAgainst 50 = .ok (.invokevirtual 48, 3) := by decide +kernel
theorem dX5_reasonAgainst_53 : decode cX5_reasonAgainst 53 = .ok (.ldc 52, 2) := by decide +kernel
theorem dX5_reasonAgainst_55 : decode cX5_reasonAgainst 55 = .ok (.if_icmp .ge 7, 3) := by decide +kernel
theorem dX5_reasonAgainst_58 : decode cX5_reasonAgainst 58 = .ok (.iconst 0, 1) := by decide +kernel
theorem dX5_reasonAgainst_59 : decode cX5_reasonAgainst 59 = .ok (.goto 5, 3) := by decide +kernel
theorem dX5_reasonAgainst_62 : decode cX5_reasonAgainst 62 = .ok (.bipush 7, 2) := by decide +kernel
theorem dX5_reasonAgainst_64 : decode cX5_reasonAgainst 64 = .ok (.ireturn, 1) := by decide +kernel
theorem dX5_reasonAgainst_65 : decode cX5_reasonAgainst 65 = .ok (.aload_n 0, 1) := by decide +kernel
theorem dX5_reasonAgainst_66 : decode cX5_reasonAgainst 66 = .ok (.aload_n 1, 1) := by decide +kernel
theorem dX5_reasonAgainst_67 : decode cX5_reasonAgainst 67 = .ok (.getfield 53, 3) := by decide +kernel
theorem dX5_reasonAgainst_70 : decode cX5_reasonAgainst 70 = .ok (.invokevirtual 56, 3) := by decide +kernel
theorem dX5_reasonAgainst_73 : decode cX5_reasonAgainst 73 = .ok (.ireturn, 1) := by decide +kernel
theorem dX5_reasonAgainst_74 : decode cX5_reasonAgainst 74 = .ok (.aload_n 0, 1) := by decide +kernel
theorem dX5_reasonAgainst_75 : decode cX5_reasonAgainst 75 = .ok (.aload_n 1, 1) := by decide +kernel
theorem dX5_reasonAgainst_76 : decode cX5_reasonAgainst 76 = .ok (.invokevirtual 60, 3) := by decide +kernel
theorem dX5_reasonAgainst_79 : decode cX5_reasonAgainst 79 = .ok (.ireturn, 1) := by decide +kernel
set_option maxRecDepth 20000 in
theorem ggX5_reasonAgainstSteppingOver_X6_isPerson : GoodIn wsX5_reasonAgainstSteppingOver wsX6_isPerson := goodIn_r _ [5, 6, 7, 4, 8] (by decide +kernel) (by decide +kernel)
set_option maxRecDepth 20000 in
theorem gX5_reasonAgainstSteppingOver_X6_isPerson_n63 : GoodIn wsX5_reasonAgainstSteppingOver (wsX6_isPerson) := ggX5_reasonAgainstSteppingOver_X6_isPerson
set_option maxRecDepth 20000 in
theorem ggX5_reasonAgainstSteppingOver_X5_kneelNow : GoodIn wsX5_reasonAgainstSteppingOver wsX5_kneelNow := goodIn_r _ [13, 14, 15, 16, 17, 18, 19, 20, 21, 22, 23, 24] (by decide +kernel) (by decide +kernel)
set_option maxRecDepth 20000 in
theorem gX5_reasonAgainstSteppingOver_X5_kneelNow : GoodIn wsX5_reasonAgainstSteppingOver (wsV RX5 67 RX5 yX5_kneelNow wsX5_kneelNow) := goodIn_app (goodIn_of _ (by decide +kernel)) ggX5_reasonAgainstSteppingOver_X5_kneelNow
theorem dX5_reasonAgainstSteppingOver_0 : decode cX5_reasonAgainstSteppingOver 0 = .ok (.iload_n 1, 1) := by decide +kernel
theorem dX5_reasonAgainstSteppingOver_1 : decode cX5_reasonAgainstSteppingOver 1 = .ok (.invokestatic 63, 3) := by decide +kernel
theorem dX5_reasonAgainstSteppingOver_4 : decode cX5_reasonAgainstSteppingOver 4 = .ok (.ifCond .eq 14, 3) := by decide +kernel
theorem dX5_reasonAgainstSteppingOver_7 : decode cX5_reasonAgainstSteppingOver 7 = .ok (.aload_n 0, 1) := by decide +kernel
theorem dX5_reasonAgainstSteppingOver_8 : decode cX5_reasonAgainstSteppingOver 8 = .ok (.getfield 27, 3) := by decide +kernel
theorem dX5_reasonAgainstSteppingOver_11 : decode cX5_reasonAgainstSteppingOver 11 = .ok (.iload_n 1, 1) := by decide +kernel
theorem dX5_reasonAgainstSteppingOver_12 : decode cX5_reasonAgainstSteppingOver 12 = .ok (.iaload, 1) := by decide +kernel
theorem dX5_reasonAgainstSteppingOver_13 : decode cX5_reasonAgainstSteppingOver 13 = .ok (.bipush (-6), 2) := by decide +kernel
theorem dX5_reasonAgainstSteppingOver_15 : decode cX5_reasonAgainstSteppingOver 15 = .ok (.if_icmp .eq 5, 3) := by decide +kernel
theorem dX5_reasonAgainstSteppingOver_18 : decode cX5_reasonAgainstSteppingOver 18 = .ok (.iconst 1, 1) := by decide +kernel
theorem dX5_reasonAgainstSteppingOver_19 : decode cX5_reasonAgainstSteppingOver 19 = .ok (.ireturn, 1) := by decide +kernel
theorem dX5_reasonAgainstSteppingOver_20 : decode cX5_reasonAgainstSteppingOver 20 = .ok (.aload_n 0, 1) := by decide +kernel
theorem dX5_reasonAgainstSteppingOver_21 : decode cX5_reasonAgainstSteppingOver 21 = .ok (.invokevirtual 67, 3) := by decide +kernel
theorem dX5_reasonAgainstSteppingOver_24 : decode cX5_reasonAgainstSteppingOver 24 = .ok (.ifCond .ne 5, 3) := by decide +kernel
theorem dX5_reasonAgainstSteppingOver_27 : decode cX5_reasonAgainstSteppingOver 27 = .ok (.iconst 2, 1) := by decide +kernel
theorem dX5_reasonAgainstSteppingOver_28 : decode cX5_reasonAgainstSteppingOver 28 = .ok (.ireturn, 1) := by decide +kernel
theorem dX5_reasonAgainstSteppingOver_29 : decode cX5_reasonAgainstSteppingOver 29 = .ok (.aload_n 0, 1) := by decide +kernel
theorem dX5_reasonAgainstSteppingOver_30 : decode cX5_reasonAgainstSteppingOver 30 = .ok (.getfield 21, 3) := by decide +kernel
theorem dX5_reasonAgainstSteppingOver_33 : decode cX5_reasonAgainstSteppingOver 33 = .ok (.ifCond .le 7, 3) := by decide +kernel
theorem dX5_reasonAgainstSteppingOver_36 : decode cX5_reasonAgainstSteppingOver 36 = .ok (.iconst 0, 1) := by decide +kernel
theorem dX5_reasonAgainstSteppingOver_37 : decode cX5_reasonAgainstSteppingOver 37 = .ok (.goto 4, 3) := by decide +kernel
theorem dX5_reasonAgainstSteppingOver_40 : decode cX5_reasonAgainstSteppingOver 40 = .ok (.iconst 3, 1) := by decide +kernel
theorem dX5_reasonAgainstSteppingOver_41 : decode cX5_reasonAgainstSteppingOver 41 = .ok (.ireturn, 1) := by decide +kernel
set_option maxRecDepth 20000 in
theorem ggX5_reasonAgainstActWithin_X6_isPerson : GoodIn wsX5_reasonAgainstActWithin wsX6_isPerson := goodIn_r _ [10, 11, 12, 9, 13] (by decide +kernel) (by decide +kernel)
set_option maxRecDepth 20000 in
theorem gX5_reasonAgainstActWithin_X6_isPerson_n63 : GoodIn wsX5_reasonAgainstActWithin (wsX6_isPerson) := ggX5_reasonAgainstActWithin_X6_isPerson
set_option maxRecDepth 20000 in
theorem ggX5_reasonAgainstActWithin_X6_isIn : GoodIn wsX5_reasonAgainstActWithin wsX6_isIn := goodIn_r _ [13] (by decide +kernel) (by decide +kernel)
set_option maxRecDepth 20000 in
theorem gX5_reasonAgainstActWithin_X6_isIn_n71 : GoodIn wsX5_reasonAgainstActWithin (wsX6_isIn) := ggX5_reasonAgainstActWithin_X6_isIn
set_option maxRecDepth 20000 in
theorem ggX5_reasonAgainstActWithin_X5_kneelNow : GoodIn wsX5_reasonAgainstActWithin wsX5_kneelNow := goodIn_r _ [18, 19, 20, 21, 25, 26, 27, 28, 29, 30, 31, 32] (by decide +kernel) (by decide +kernel)
set_option maxRecDepth 20000 in
theorem gX5_reasonAgainstActWithin_X5_kneelNow : GoodIn wsX5_reasonAgainstActWithin (wsV RX5 67 RX5 yX5_kneelNow wsX5_kneelNow) := goodIn_app (goodIn_of _ (by decide +kernel)) ggX5_reasonAgainstActWithin_X5_kneelNow
theorem dX5_reasonAgainstActWithin_0 : decode cX5_reasonAgainstActWithin 0 = .ok (.aload_n 1, 1) := by decide +kernel
theorem dX5_reasonAgainstActWithin_1 : decode cX5_reasonAgainstActWithin 1 = .ok (.getfield 53, 3) := by decide +kernel
theorem dX5_reasonAgainstActWithin_4 : decode cX5_reasonAgainstActWithin 4 = .ok (.invokestatic 63, 3) := by decide +kernel
theorem dX5_reasonAgainstActWithin_7 : decode cX5_reasonAgainstActWithin 7 = .ok (.ifCond .eq 21, 3) := by decide +kernel
theorem dX5_reasonAgainstActWithin_10 : decode cX5_reasonAgainstActWithin 10 = .ok (.aload_n 0, 1) := by decide +kernel
theorem dX5_reasonAgainstActWithin_11 : decode cX5_reasonAgainstActWithin 11 = .ok (.getfield 27, 3) := by decide +kernel
theorem dX5_reasonAgainstActWithin_14 : decode cX5_reasonAgainstActWithin 14 = .ok (.aload_n 1, 1) := by decide +kernel
theorem dX5_reasonAgainstActWithin_15 : decode cX5_reasonAgainstActWithin 15 = .ok (.getfield 53, 3) := by decide +kernel
theorem dX5_reasonAgainstActWithin_18 : decode cX5_reasonAgainstActWithin 18 = .ok (.iaload, 1) := by decide +kernel
theorem dX5_reasonAgainstActWithin_19 : decode cX5_reasonAgainstActWithin 19 = .ok (.iconst 0, 1) := by decide +kernel
theorem dX5_reasonAgainstActWithin_20 : decode cX5_reasonAgainstActWithin 20 = .ok (.bipush 29, 2) := by decide +kernel
theorem dX5_reasonAgainstActWithin_22 : decode cX5_reasonAgainstActWithin 22 = .ok (.invokestatic 71, 3) := by decide +kernel
theorem dX5_reasonAgainstActWithin_25 : decode cX5_reasonAgainstActWithin 25 = .ok (.ifCond .ne 5, 3) := by decide +kernel
theorem dX5_reasonAgainstActWithin_28 : decode cX5_reasonAgainstActWithin 28 = .ok (.iconst 1, 1) := by decide +kernel
theorem dX5_reasonAgainstActWithin_29 : decode cX5_reasonAgainstActWithin 29 = .ok (.ireturn, 1) := by decide +kernel
theorem dX5_reasonAgainstActWithin_30 : decode cX5_reasonAgainstActWithin 30 = .ok (.aload_n 0, 1) := by decide +kernel
theorem dX5_reasonAgainstActWithin_31 : decode cX5_reasonAgainstActWithin 31 = .ok (.getfield 27, 3) := by decide +kernel
theorem dX5_reasonAgainstActWithin_34 : decode cX5_reasonAgainstActWithin 34 = .ok (.aload_n 1, 1) := by decide +kernel
theorem dX5_reasonAgainstActWithin_35 : decode cX5_reasonAgainstActWithin 35 = .ok (.getfield 53, 3) := by decide +kernel
theorem dX5_reasonAgainstActWithin_38 : decode cX5_reasonAgainstActWithin 38 = .ok (.iaload, 1) := by decide +kernel
theorem dX5_reasonAgainstActWithin_39 : decode cX5_reasonAgainstActWithin 39 = .ok (.istore_n 2, 1) := by decide +kernel
theorem dX5_reasonAgainstActWithin_40 : decode cX5_reasonAgainstActWithin 40 = .ok (.aload_n 1, 1) := by decide +kernel
theorem dX5_reasonAgainstActWithin_41 : decode cX5_reasonAgainstActWithin 41 = .ok (.getfield 43, 3) := by decide +kernel
theorem dX5_reasonAgainstActWithin_44 : decode cX5_reasonAgainstActWithin 44 = .ok (.lookupswitch 105 #[(36, 83), (41, 44), (60, 73), (62, 57)], 44) := by decide +kernel
theorem dX5_reasonAgainstActWithin_88 : decode cX5_reasonAgainstActWithin 88 = .ok (.aload_n 0, 1) := by decide +kernel
theorem dX5_reasonAgainstActWithin_89 : decode cX5_reasonAgainstActWithin 89 = .ok (.invokevirtual 67, 3) := by decide +kernel
theorem dX5_reasonAgainstActWithin_92 : decode cX5_reasonAgainstActWithin 92 = .ok (.ifCond .eq 7, 3) := by decide +kernel
theorem dX5_reasonAgainstActWithin_95 : decode cX5_reasonAgainstActWithin 95 = .ok (.iconst 0, 1) := by decide +kernel
theorem dX5_reasonAgainstActWithin_96 : decode cX5_reasonAgainstActWithin 96 = .ok (.goto 4, 3) := by decide +kernel
theorem dX5_reasonAgainstActWithin_99 : decode cX5_reasonAgainstActWithin 99 = .ok (.iconst 2, 1) := by decide +kernel
theorem dX5_reasonAgainstActWithin_100 : decode cX5_reasonAgainstActWithin 100 = .ok (.ireturn, 1) := by decide +kernel
theorem dX5_reasonAgainstActWithin_101 : decode cX5_reasonAgainstActWithin 101 = .ok (.iload_n 2, 1) := by decide +kernel
theorem dX5_reasonAgainstActWithin_102 : decode cX5_reasonAgainstActWithin 102 = .ok (.iconst 1, 1) := by decide +kernel
theorem dX5_reasonAgainstActWithin_103 : decode cX5_reasonAgainstActWithin 103 = .ok (.iadd, 1) := by decide +kernel
theorem dX5_reasonAgainstActWithin_104 : decode cX5_reasonAgainstActWithin 104 = .ok (.aload_n 0, 1) := by decide +kernel
theorem dX5_reasonAgainstActWithin_105 : decode cX5_reasonAgainstActWithin 105 = .ok (.getfield 21, 3) := by decide +kernel
theorem dX5_reasonAgainstActWithin_108 : decode cX5_reasonAgainstActWithin 108 = .ok (.if_icmp .ge 7, 3) := by decide +kernel
theorem dX5_reasonAgainstActWithin_111 : decode cX5_reasonAgainstActWithin 111 = .ok (.iconst 0, 1) := by decide +kernel
theorem dX5_reasonAgainstActWithin_112 : decode cX5_reasonAgainstActWithin 112 = .ok (.goto 4, 3) := by decide +kernel
theorem dX5_reasonAgainstActWithin_115 : decode cX5_reasonAgainstActWithin 115 = .ok (.iconst 4, 1) := by decide +kernel
theorem dX5_reasonAgainstActWithin_116 : decode cX5_reasonAgainstActWithin 116 = .ok (.ireturn, 1) := by decide +kernel
theorem dX5_reasonAgainstActWithin_117 : decode cX5_reasonAgainstActWithin 117 = .ok (.iload_n 2, 1) := by decide +kernel
theorem dX5_reasonAgainstActWithin_118 : decode cX5_reasonAgainstActWithin 118 = .ok (.ifCond .le 7, 3) := by decide +kernel
theorem dX5_reasonAgainstActWithin_121 : decode cX5_reasonAgainstActWithin 121 = .ok (.iconst 0, 1) := by decide +kernel
theorem dX5_reasonAgainstActWithin_122 : decode cX5_reasonAgainstActWithin 122 = .ok (.goto 4, 3) := by decide +kernel
theorem dX5_reasonAgainstActWithin_125 : decode cX5_reasonAgainstActWithin 125 = .ok (.iconst 4, 1) := by decide +kernel
theorem dX5_reasonAgainstActWithin_126 : decode cX5_reasonAgainstActWithin 126 = .ok (.ireturn, 1) := by decide +kernel
theorem dX5_reasonAgainstActWithin_127 : decode cX5_reasonAgainstActWithin 127 = .ok (.aload_n 0, 1) := by decide +kernel
theorem dX5_reasonAgainstActWithin_128 : decode cX5_reasonAgainstActWithin 128 = .ok (.getfield 31, 3) := by decide +kernel
theorem dX5_reasonAgainstActWithin_131 : decode cX5_reasonAgainstActWithin 131 = .ok (.aload_n 1, 1) := by decide +kernel
theorem dX5_reasonAgainstActWithin_132 : decode cX5_reasonAgainstActWithin 132 = .ok (.getfield 53, 3) := by decide +kernel
theorem dX5_reasonAgainstActWithin_135 : decode cX5_reasonAgainstActWithin 135 = .ok (.iaload, 1) := by decide +kernel
theorem dX5_reasonAgainstActWithin_136 : decode cX5_reasonAgainstActWithin 136 = .ok (.aload_n 1, 1) := by decide +kernel
theorem dX5_reasonAgainstActWithin_137 : decode cX5_reasonAgainstActWithin 137 = .ok (.getfield 75, 3) := by decide +kernel
theorem dX5_reasonAgainstActWithin_140 : decode cX5_reasonAgainstActWithin 140 = .ok (.if_icmp .lt 7, 3) := by decide +kernel
theorem dX5_reasonAgainstActWithin_143 : decode cX5_reasonAgainstActWithin 143 = .ok (.iconst 0, 1) := by decide +kernel
theorem dX5_reasonAgainstActWithin_144 : decode cX5_reasonAgainstActWithin 144 = .ok (.goto 4, 3) := by decide +kernel
theorem dX5_reasonAgainstActWithin_147 : decode cX5_reasonAgainstActWithin 147 = .ok (.iconst 5, 1) := by decide +kernel
theorem dX5_reasonAgainstActWithin_148 : decode cX5_reasonAgainstActWithin 148 = .ok (.ireturn, 1) := by decide +kernel
theorem dX5_reasonAgainstActWithin_149 : decode cX5_reasonAgainstActWithin 149 = .ok (.aload_n 0, 1) := by decide +kernel
theorem dX5_reasonAgainstActWithin_150 : decode cX5_reasonAgainstActWithin 150 = .ok (.getfield 34, 3) := by decide +kernel
theorem dX5_reasonAgainstActWithin_153 : decode cX5_reasonAgainstActWithin 153 = .ok (.iload_n 2, 1) := by decide +kernel
theorem dX5_reasonAgainstActWithin_154 : decode cX5_reasonAgainstActWithin 154 = .ok (.iaload, 1) := by decide +kernel
theorem dX5_reasonAgainstActWithin_155 : decode cX5_reasonAgainstActWithin 155 = .ok (.ifCond .le 7, 3) := by decide +kernel
theorem dX5_reasonAgainstActWithin_158 : decode cX5_reasonAgainstActWithin 158 = .ok (.iconst 0, 1) := by decide +kernel
theorem dX5_reasonAgainstActWithin_159 : decode cX5_reasonAgainstActWithin 159 = .ok (.goto 5, 3) := by decide +kernel
theorem dX5_reasonAgainstActWithin_162 : decode cX5_reasonAgainstActWithin 162 = .ok (.bipush 6, 2) := by decide +kernel
theorem dX5_reasonAgainstActWithin_164 : decode cX5_reasonAgainstActWithin 164 = .ok (.ireturn, 1) := by decide +kernel
set_option maxRecDepth 20000 in
theorem ggX5_perform_X5_timeBehind : GoodIn wsX5_perform wsX5_timeBehind := goodIn_r _ [6, 1, 7, 8, 9, 10, 11, 12, 13, 5, 14, 41, 42, 43, 44, 45, 46, 47, 48, 49, 50, 51] (by decide +kernel) (by decide +kernel)
set_option maxRecDepth 20000 in
theorem gX5_perform_X5_timeBehind : GoodIn wsX5_perform (wsV RX5 48 RX5 yX5_timeBehind wsX5_timeBehind) := goodIn_app (goodIn_of _ (by decide +kernel)) ggX5_perform_X5_timeBehind
set_option maxRecDepth 20000 in
theorem ggX5_perform_X5_setTime : GoodIn wsX5_perform wsX5_setTime := goodIn_r _ [18, 9, 8, 7, 44, 45, 46, 47, 48, 49, 50, 51] (by decide +kernel) (by decide +kernel)
set_option maxRecDepth 20000 in
theorem gX5_perform_X5_setTime : GoodIn wsX5_perform (wsV RX5 78 RX5 yX5_setTime wsX5_setTime) := goodIn_app (goodIn_of _ (by decide +kernel)) ggX5_perform_X5_setTime
set_option maxRecDepth 20000 in
theorem ggX5_perform_X5_performByPerson : GoodIn wsX5_perform wsX5_performByPerson := goodIn_r _ [22, 23, 1, 24, 10, 25, 26, 27, 28, 29, 30, 31, 32, 33, 5, 34, 35, 36, 37, 38, 39, 40, 41, 42, 43, 44, 45, 46, 47, 48, 49, 50, 51] (by decide +kernel) (by decide +kernel)
set_option maxRecDepth 20000 in
theorem gX5_perform_X5_performByPerson : GoodIn wsX5_perform (wsV RX5 82 RX5 yX5_performByPerson wsX5_performByPerson) := goodIn_app (goodIn_of _ (by decide +kernel)) ggX5_perform_X5_performByPerson
theorem dX5_perform_0 : decode cX5_perform 0 = .ok (.aload_n 1, 1) := by decide +kernel
theorem dX5_perform_1 : decode cX5_perform 1 = .ok (.getfield 43, 3) := by decide +kernel
theorem dX5_perform_4 : decode cX5_perform 4 = .ok (.lookupswitch 48 #[(100, 36), (104, 36), (107, 36)], 36) := by decide +kernel
theorem dX5_perform_40 : decode cX5_perform 40 = .ok (.aload_n 0, 1) := by decide +kernel
theorem dX5_perform_41 : decode cX5_perform 41 = .ok (.aload_n 0, 1) := by decide +kernel
theorem dX5_perform_42 : decode cX5_perform 42 = .ok (.aload_n 1, 1) := by decide +kernel
theorem dX5_perform_43 : decode cX5_perform 43 = .ok (.invokevirtual 48, 3) := by decide +kernel
theorem dX5_perform_46 : decode cX5_perform 46 = .ok (.invokevirtual 78, 3) := by decide +kernel
theorem dX5_perform_49 : decode cX5_perform 49 = .ok (.goto 8, 3) := by decide +kernel
theorem dX5_perform_52 : decode cX5_perform 52 = .ok (.aload_n 0, 1) := by decide +kernel
theorem dX5_perform_53 : decode cX5_perform 53 = .ok (.aload_n 1, 1) := by decide +kernel
theorem dX5_perform_54 : decode cX5_perform 54 = .ok (.invokevirtual 82, 3) := by decide +kernel
theorem dX5_perform_57 : decode cX5_perform 57 = .ok (.return_, 1) := by decide +kernel
set_option maxRecDepth 20000 in
theorem ggX5_performByPerson_X6_isPerson : GoodIn wsX5_performByPerson wsX6_isPerson := goodIn_r _ [7, 8, 9, 6, 10] (by decide +kernel) (by decide +kernel)
set_option maxRecDepth 20000 in
theorem gX5_performByPerson_X6_isPerson_n63 : GoodIn wsX5_performByPerson (wsX6_isPerson) := ggX5_performByPerson_X6_isPerson
set_option maxRecDepth 20000 in
theorem ggX5_performByPerson_X5_moveCoin : GoodIn wsX5_performByPerson wsX5_moveCoin := goodIn_r _ [15, 3, 16, 17, 9, 6, 10, 25, 26, 27, 28, 29, 30, 31, 32] (by decide +kernel) (by decide +kernel)
set_option maxRecDepth 20000 in
theorem gX5_performByPerson_X5_moveCoin : GoodIn wsX5_performByPerson (wsV RX5 86 RX5 yX5_moveCoin wsX5_moveCoin) := goodIn_app (goodIn_of _ (by decide +kernel)) ggX5_performByPerson_X5_moveCoin
set_option maxRecDepth 20000 in
theorem ggX5_performByPerson_X5_liesBy : GoodIn wsX5_performByPerson wsX5_liesBy := goodIn_r _ [21, 3, 17, 9, 6, 10, 25, 26, 27, 28, 29, 30, 31, 32] (by decide +kernel) (by decide +kernel)
set_option maxRecDepth 20000 in
theorem gX5_performByPerson_X5_liesBy : GoodIn wsX5_performByPerson (wsV RX5 90 RX5 yX5_liesBy wsX5_liesBy) := goodIn_app (goodIn_of _ (by decide +kernel)) ggX5_performByPerson_X5_liesBy
theorem dX5_performByPerson_0 : decode cX5_performByPerson 0 = .ok (.aload_n 1, 1) := by decide +kernel
theorem dX5_performByPerson_1 : decode cX5_performByPerson 1 = .ok (.getfield 53, 3) := by decide +kernel
theorem dX5_performByPerson_4 : decode cX5_performByPerson 4 = .ok (.istore_n 2, 1) := by decide +kernel
theorem dX5_performByPerson_5 : decode cX5_performByPerson 5 = .ok (.iload_n 2, 1) := by decide +kernel
theorem dX5_performByPerson_6 : decode cX5_performByPerson 6 = .ok (.invokestatic 63, 3) := by decide +kernel
theorem dX5_performByPerson_9 : decode cX5_performByPerson 9 = .ok (.ifCond .ne 4, 3) := by decide +kernel
theorem dX5_performByPerson_12 : decode cX5_performByPerson 12 = .ok (.return_, 1) := by decide +kernel
theorem dX5_performByPerson_13 : decode cX5_performByPerson 13 = .ok (.aload_n 1, 1) := by decide +kernel
theorem dX5_performByPerson_14 : decode cX5_performByPerson 14 = .ok (.getfield 43, 3) := by decide +kernel
theorem dX5_performByPerson_17 : decode cX5_performByPerson 17 = .ok (.lookupswitch 110 #[(36, 98), (40, 51), (41, 61), (60, 85), (62, 72)], 51) := by decide +kernel
theorem dX5_performByPerson_68 : decode cX5_performByPerson 68 = .ok (.aload_n 0, 1) := by decide +kernel
theorem dX5_performByPerson_69 : decode cX5_performByPerson 69 = .ok (.getfield 27, 3) := by decide +kernel
theorem dX5_performByPerson_72 : decode cX5_performByPerson 72 = .ok (.iload_n 2, 1) := by decide +kernel
theorem dX5_performByPerson_73 : decode cX5_performByPerson 73 = .ok (.iconst 0, 1) := by decide +kernel
theorem dX5_performByPerson_74 : decode cX5_performByPerson 74 = .ok (.iastore, 1) := by decide +kernel
theorem dX5_performByPerson_75 : decode cX5_performByPerson 75 = .ok (.goto 63, 3) := by decide +kernel
theorem dX5_performByPerson_78 : decode cX5_performByPerson 78 = .ok (.aload_n 0, 1) := by decide +kernel
theorem dX5_performByPerson_79 : decode cX5_performByPerson 79 = .ok (.getfield 27, 3) := by decide +kernel
theorem dX5_performByPerson_82 : decode cX5_performByPerson 82 = .ok (.iload_n 2, 1) := by decide +kernel
theorem dX5_performByPerson_83 : decode cX5_performByPerson 83 = .ok (.bipush (-6), 2) := by decide +kernel
theorem dX5_performByPerson_85 : decode cX5_performByPerson 85 = .ok (.iastore, 1) := by decide +kernel
theorem dX5_performByPerson_86 : decode cX5_performByPerson 86 = .ok (.goto 52, 3) := by decide +kernel
theorem dX5_performByPerson_89 : decode cX5_performByPerson 89 = .ok (.aload_n 0, 1) := by decide +kernel
theorem dX5_performByPerson_90 : decode cX5_performByPerson 90 = .ok (.getfield 27, 3) := by decide +kernel
theorem dX5_performByPerson_93 : decode cX5_performByPerson 93 = .ok (.iload_n 2, 1) := by decide +kernel
theorem dX5_performByPerson_94 : decode cX5_performByPerson 94 = .ok (.dup2, 1) := by decide +kernel
theorem dX5_performByPerson_95 : decode cX5_performByPerson 95 = .ok (.iaload, 1) := by decide +kernel
theorem dX5_performByPerson_96 : decode cX5_performByPerson 96 = .ok (.iconst 1, 1) := by decide +kernel
theorem dX5_performByPerson_97 : decode cX5_performByPerson 97 = .ok (.iadd, 1) := by decide +kernel
theorem dX5_performByPerson_98 : decode cX5_performByPerson 98 = .ok (.iastore, 1) := by decide +kernel
theorem dX5_performByPerson_99 : decode cX5_performByPerson 99 = .ok (.goto 39, 3) := by decide +kernel
theorem dX5_performByPerson_102 : decode cX5_performByPerson 102 = .ok (.aload_n 0, 1) := by decide +kernel
theorem dX5_performByPerson_103 : decode cX5_performByPerson 103 = .ok (.getfield 27, 3) := by decide +kernel
theorem dX5_performByPerson_106 : decode cX5_performByPerson 106 = .ok (.iload_n 2, 1) := by decide +kernel
theorem dX5_performByPerson_107 : decode cX5_performByPerson 107 = .ok (.dup2, 1) := by decide +kernel
theorem dX5_performByPerson_108 : decode cX5_performByPerson 108 = .ok (.iaload, 1) := by decide +kernel
theorem dX5_performByPerson_109 : decode cX5_performByPerson 109 = .ok (.iconst 1, 1) := by decide +kernel
theorem dX5_performByPerson_110 : decode cX5_performByPerson 110 = .ok (.isub, 1) := by decide +kernel
theorem dX5_performByPerson_111 : decode cX5_performByPerson 111 = .ok (.iastore, 1) := by decide +kernel
theorem dX5_performByPerson_112 : decode cX5_performByPerson 112 = .ok (.goto 26, 3) := by decide +kernel
theorem dX5_performByPerson_115 : decode cX5_performByPerson 115 = .ok (.aload_n 0, 1) := by decide +kernel
theorem dX5_performByPerson_116 : decode cX5_performByPerson 116 = .ok (.iload_n 2, 1) := by decide +kernel
theorem dX5_performByPerson_117 : decode cX5_performByPerson 117 = .ok (.aload_n 1, 1) := by decide +kernel
theorem dX5_performByPerson_118 : decode cX5_performByPerson 118 = .ok (.getfield 75, 3) := by decide +kernel
theorem dX5_performByPerson_121 : decode cX5_performByPerson 121 = .ok (.invokevirtual 86, 3) := by decide +kernel
theorem dX5_performByPerson_124 : decode cX5_performByPerson 124 = .ok (.goto 14, 3) := by decide +kernel
theorem dX5_performByPerson_127 : decode cX5_performByPerson 127 = .ok (.aload_n 0, 1) := by decide +kernel
theorem dX5_performByPerson_128 : decode cX5_performByPerson 128 = .ok (.iload_n 2, 1) := by decide +kernel
theorem dX5_performByPerson_129 : decode cX5_performByPerson 129 = .ok (.aload_n 0, 1) := by decide +kernel
theorem dX5_performByPerson_130 : decode cX5_performByPerson 130 = .ok (.iload_n 2, 1) := by decide +kernel
theorem dX5_performByPerson_131 : decode cX5_performByPerson 131 = .ok (.invokevirtual 90, 3) := by decide +kernel
theorem dX5_performByPerson_134 : decode cX5_performByPerson 134 = .ok (.ineg, 1) := by decide +kernel
theorem dX5_performByPerson_135 : decode cX5_performByPerson 135 = .ok (.invokevirtual 86, 3) := by decide +kernel
theorem dX5_performByPerson_138 : decode cX5_performByPerson 138 = .ok (.return_, 1) := by decide +kernel
set_option maxRecDepth 20000 in
theorem ggX5_liesBy_X6_isIn : GoodIn wsX5_liesBy wsX6_isIn := goodIn_r _ [5] (by decide +kernel) (by decide +kernel)
set_option maxRecDepth 20000 in
theorem gX5_liesBy_X6_isIn_n71 : GoodIn wsX5_liesBy (wsX6_isIn) := ggX5_liesBy_X6_isIn
theorem dX5_liesBy_0 : decode cX5_liesBy 0 = .ok (.aload_n 0, 1) := by decide +kernel
theorem dX5_liesBy_1 : decode cX5_liesBy 1 = .ok (.getfield 27, 3) := by decide +kernel
theorem dX5_liesBy_4 : decode cX5_liesBy 4 = .ok (.iload_n 1, 1) := by decide +kernel
theorem dX5_liesBy_5 : decode cX5_liesBy 5 = .ok (.iaload, 1) := by decide +kernel
theorem dX5_liesBy_6 : decode cX5_liesBy 6 = .ok (.istore_n 2, 1) := by decide +kernel
theorem dX5_liesBy_7 : decode cX5_liesBy 7 = .ok (.iload_n 2, 1) := by decide +kernel
theorem dX5_liesBy_8 : decode cX5_liesBy 8 = .ok (.iconst 0, 1) := by decide +kernel
theorem dX5_liesBy_9 : decode cX5_liesBy 9 = .ok (.bipush 29, 2) := by decide +kernel
theorem dX5_liesBy_11 : decode cX5_liesBy 11 = .ok (.invokestatic 71, 3) := by decide +kernel
theorem dX5_liesBy_14 : decode cX5_liesBy 14 = .ok (.ifCond .eq 12, 3) := by decide +kernel
theorem dX5_liesBy_17 : decode cX5_liesBy 17 = .ok (.aload_n 0, 1) := by decide +kernel
theorem dX5_liesBy_18 : decode cX5_liesBy 18 = .ok (.getfield 34, 3) := by decide +kernel
theorem dX5_liesBy_21 : decode cX5_liesBy 21 = .ok (.iload_n 2, 1) := by decide +kernel
theorem dX5_liesBy_22 : decode cX5_liesBy 22 = .ok (.iaload, 1) := by decide +kernel
theorem dX5_liesBy_23 : decode cX5_liesBy 23 = .ok (.goto 4, 3) := by decide +kernel
theorem dX5_liesBy_26 : decode cX5_liesBy 26 = .ok (.iconst 0, 1) := by decide +kernel
theorem dX5_liesBy_27 : decode cX5_liesBy 27 = .ok (.ireturn, 1) := by decide +kernel
set_option maxRecDepth 20000 in
theorem ggX5_moveCoin_X6_isIn : GoodIn wsX5_moveCoin wsX6_isIn := goodIn_r _ [6] (by decide +kernel) (by decide +kernel)
set_option maxRecDepth 20000 in
theorem gX5_moveCoin_X6_isIn_n71 : GoodIn wsX5_moveCoin (wsX6_isIn) := ggX5_moveCoin_X6_isIn
theorem dX5_moveCoin_0 : decode cX5_moveCoin 0 = .ok (.aload_n 0, 1) := by decide +kernel
theorem dX5_moveCoin_1 : decode cX5_moveCoin 1 = .ok (.getfield 27, 3) := by decide +kernel
theorem dX5_moveCoin_4 : decode cX5_moveCoin 4 = .ok (.iload_n 1, 1) := by decide +kernel
theorem dX5_moveCoin_5 : decode cX5_moveCoin 5 = .ok (.iaload, 1) := by decide +kernel
theorem dX5_moveCoin_6 : decode cX5_moveCoin 6 = .ok (.istore_n 3, 1) := by decide +kernel
theorem dX5_moveCoin_7 : decode cX5_moveCoin 7 = .ok (.iload_n 3, 1) := by decide +kernel
theorem dX5_moveCoin_8 : decode cX5_moveCoin 8 = .ok (.iconst 0, 1) := by decide +kernel
theorem dX5_moveCoin_9 : decode cX5_moveCoin 9 = .ok (.bipush 29, 2) := by decide +kernel
theorem dX5_moveCoin_11 : decode cX5_moveCoin 11 = .ok (.invokestatic 71, 3) := by decide +kernel
theorem dX5_moveCoin_14 : decode cX5_moveCoin 14 = .ok (.ifCond .eq 23, 3) := by decide +kernel
theorem dX5_moveCoin_17 : decode cX5_moveCoin 17 = .ok (.aload_n 0, 1) := by decide +kernel
theorem dX5_moveCoin_18 : decode cX5_moveCoin 18 = .ok (.getfield 31, 3) := by decide +kernel
theorem dX5_moveCoin_21 : decode cX5_moveCoin 21 = .ok (.iload_n 1, 1) := by decide +kernel
theorem dX5_moveCoin_22 : decode cX5_moveCoin 22 = .ok (.dup2, 1) := by decide +kernel
theorem dX5_moveCoin_23 : decode cX5_moveCoin 23 = .ok (.iaload, 1) := by decide +kernel
theorem dX5_moveCoin_24 : decode cX5_moveCoin 24 = .ok (.iload_n 2, 1) := by decide +kernel
theorem dX5_moveCoin_25 : decode cX5_moveCoin 25 = .ok (.isub, 1) := by decide +kernel
theorem dX5_moveCoin_26 : decode cX5_moveCoin 26 = .ok (.iastore, 1) := by decide +kernel
theorem dX5_moveCoin_27 : decode cX5_moveCoin 27 = .ok (.aload_n 0, 1) := by decide +kernel
theorem dX5_moveCoin_28 : decode cX5_moveCoin 28 = .ok (.getfield 34, 3) := by decide +kernel
theorem dX5_moveCoin_31 : decode cX5_moveCoin 31 = .ok (.iload_n 3, 1) := by decide +kernel
theorem dX5_moveCoin_32 : decode cX5_moveCoin 32 = .ok (.dup2, 1) := by decide +kernel
theorem dX5_moveCoin_33 : decode cX5_moveCoin 33 = .ok (.iaload, 1) := by decide +kernel
theorem dX5_moveCoin_34 : decode cX5_moveCoin 34 = .ok (.iload_n 2, 1) := by decide +kernel
theorem dX5_moveCoin_35 : decode cX5_moveCoin 35 = .ok (.iadd, 1) := by decide +kernel
theorem dX5_moveCoin_36 : decode cX5_moveCoin 36 = .ok (.iastore, 1) := by decide +kernel
theorem dX5_moveCoin_37 : decode cX5_moveCoin 37 = .ok (.return_, 1) := by decide +kernel
set_option maxRecDepth 20000 in
theorem ggX5_timeBehind_X5_timeOf : GoodIn wsX5_timeBehind wsX5_timeOf := goodIn_r _ [10] (by decide +kernel) (by decide +kernel)
set_option maxRecDepth 20000 in
theorem gX5_timeBehind_X5_timeOf : GoodIn wsX5_timeBehind (va_wsS RX5 93 yX5_timeOf wsX5_timeOf) := goodIn_app (goodIn_of _ (by decide +kernel)) ggX5_timeBehind_X5_timeOf
theorem dX5_timeBehind_0 : decode cX5_timeBehind 0 = .ok (.aload_n 1, 1) := by decide +kernel
theorem dX5_timeBehind_1 : decode cX5_timeBehind 1 = .ok (.getfield 43, 3) := by decide +kernel
theorem dX5_timeBehind_4 : decode cX5_timeBehind 4 = .ok (.lookupswitch 73 #[(100, 49), (104, 28)], 28) := by decide +kernel
theorem dX5_timeBehind_32 : decode cX5_timeBehind 32 = .ok (.aload_n 0, 1) := by decide +kernel
theorem dX5_timeBehind_33 : decode cX5_timeBehind 33 = .ok (.getfield 18, 3) := by decide +kernel
theorem dX5_timeBehind_36 : decode cX5_timeBehind 36 = .ok (.aload_n 0, 1) := by decide +kernel
theorem dX5_timeBehind_37 : decode cX5_timeBehind 37 = .ok (.getfield 9, 3) := by decide +kernel
theorem dX5_timeBehind_40 : decode cX5_timeBehind 40 = .ok (.aload_n 0, 1) := by decide +kernel
theorem dX5_timeBehind_41 : decode cX5_timeBehind 41 = .ok (.getfield 15, 3) := by decide +kernel
theorem dX5_timeBehind_44 : decode cX5_timeBehind 44 = .ok (.invokestatic 93, 3) := by decide +kernel
theorem dX5_timeBehind_47 : decode cX5_timeBehind 47 = .ok (.aload_n 1, 1) := by decide +kernel
theorem dX5_timeBehind_48 : decode cX5_timeBehind 48 = .ok (.getfield 75, 3) := by decide +kernel
theorem dX5_timeBehind_51 : decode cX5_timeBehind 51 = .ok (.iadd, 1) := by decide +kernel
theorem dX5_timeBehind_52 : decode cX5_timeBehind 52 = .ok (.ireturn, 1) := by decide +kernel
theorem dX5_timeBehind_53 : decode cX5_timeBehind 53 = .ok (.aload_n 0, 1) := by decide +kernel
theorem dX5_timeBehind_54 : decode cX5_timeBehind 54 = .ok (.getfield 18, 3) := by decide +kernel
theorem dX5_timeBehind_57 : decode cX5_timeBehind 57 = .ok (.aload_n 0, 1) := by decide +kernel
theorem dX5_timeBehind_58 : decode cX5_timeBehind 58 = .ok (.getfield 9, 3) := by decide +kernel
theorem dX5_timeBehind_61 : decode cX5_timeBehind 61 = .ok (.aload_n 0, 1) := by decide +kernel
theorem dX5_timeBehind_62 : decode cX5_timeBehind 62 = .ok (.getfield 15, 3) := by decide +kernel
theorem dX5_timeBehind_65 : decode cX5_timeBehind 65 = .ok (.invokestatic 93, 3) := by decide +kernel
theorem dX5_timeBehind_68 : decode cX5_timeBehind 68 = .ok (.aload_n 1, 1) := by decide +kernel
theorem dX5_timeBehind_69 : decode cX5_timeBehind 69 = .ok (.getfield 75, 3) := by decide +kernel
theorem dX5_timeBehind_72 : decode cX5_timeBehind 72 = .ok (.bipush 24, 2) := by decide +kernel
theorem dX5_timeBehind_74 : decode cX5_timeBehind 74 = .ok (.imul, 1) := by decide +kernel
theorem dX5_timeBehind_75 : decode cX5_timeBehind 75 = .ok (.iadd, 1) := by decide +kernel
theorem dX5_timeBehind_76 : decode cX5_timeBehind 76 = .ok (.ireturn, 1) := by decide +kernel
theorem dX5_timeBehind_77 : decode cX5_timeBehind 77 = .ok (.aload_n 0, 1) := by decide +kernel
theorem dX5_timeBehind_78 : decode cX5_timeBehind 78 = .ok (.getfield 9, 3) := by decide +kernel
theorem dX5_timeBehind_81 : decode cX5_timeBehind 81 = .ok (.aload_n 0, 1) := by decide +kernel
theorem dX5_timeBehind_82 : decode cX5_timeBehind 82 = .ok (.getfield 24, 3) := by decide +kernel
theorem dX5_timeBehind_85 : decode cX5_timeBehind 85 = .ok (.if_icmp .ge 10, 3) := by decide +kernel
theorem dX5_timeBehind_88 : decode cX5_timeBehind 88 = .ok (.aload_n 0, 1) := by decide +kernel
theorem dX5_timeBehind_89 : decode cX5_timeBehind 89 = .ok (.getfield 18, 3) := by decide +kernel
theorem dX5_timeBehind_92 : decode cX5_timeBehind 92 = .ok (.goto 9, 3) := by decide +kernel
theorem dX5_timeBehind_95 : decode cX5_timeBehind 95 = .ok (.aload_n 0, 1) := by decide +kernel
theorem dX5_timeBehind_96 : decode cX5_timeBehind 96 = .ok (.getfield 18, 3) := by decide +kernel
theorem dX5_timeBehind_99 : decode cX5_timeBehind 99 = .ok (.iconst 1, 1) := by decide +kernel
theorem dX5_timeBehind_100 : decode cX5_timeBehind 100 = .ok (.iadd, 1) := by decide +kernel
theorem dX5_timeBehind_101 : decode cX5_timeBehind 101 = .ok (.aload_n 0, 1) := by decide +kernel
theorem dX5_timeBehind_102 : decode cX5_timeBehind 102 = .ok (.getfield 24, 3) := by decide +kernel
theorem dX5_timeBehind_105 : decode cX5_timeBehind 105 = .ok (.iconst 0, 1) := by decide +kernel
theorem dX5_timeBehind_106 : decode cX5_timeBehind 106 = .ok (.invokestatic 93, 3) := by decide +kernel
theorem dX5_timeBehind_109 : decode cX5_timeBehind 109 = .ok (.ireturn, 1) := by decide +kernel
theorem dX5_timeOf_0 : decode cX5_timeOf 0 = .ok (.iload_n 0, 1) := by decide +kernel
theorem dX5_timeOf_1 : decode cX5_timeOf 1 = .ok (.sipush 365, 3) := by decide +kernel
theorem dX5_timeOf_4 : decode cX5_timeOf 4 = .ok (.imul, 1) := by decide +kernel
theorem dX5_timeOf_5 : decode cX5_timeOf 5 = .ok (.iload_n 1, 1) := by decide +kernel
theorem dX5_timeOf_6 : decode cX5_timeOf 6 = .ok (.iadd, 1) := by decide +kernel
theorem dX5_timeOf_7 : decode cX5_timeOf 7 = .ok (.bipush 24, 2) := by decide +kernel
theorem dX5_timeOf_9 : decode cX5_timeOf 9 = .ok (.imul, 1) := by decide +kernel
theorem dX5_timeOf_10 : decode cX5_timeOf 10 = .ok (.iload_n 2, 1) := by decide +kernel
theorem dX5_timeOf_11 : decode cX5_timeOf 11 = .ok (.iadd, 1) := by decide +kernel
theorem dX5_timeOf_12 : decode cX5_timeOf 12 = .ok (.ireturn, 1) := by decide +kernel
theorem dX5_setTime_0 : decode cX5_setTime 0 = .ok (.aload_n 0, 1) := by decide +kernel
theorem dX5_setTime_1 : decode cX5_setTime 1 = .ok (.iload_n 1, 1) := by decide +kernel
theorem dX5_setTime_2 : decode cX5_setTime 2 = .ok (.bipush 24, 2) := by decide +kernel
theorem dX5_setTime_4 : decode cX5_setTime 4 = .ok (.irem, 1) := by decide +kernel
theorem dX5_setTime_5 : decode cX5_setTime 5 = .ok (.putfield 15, 3) := by decide +kernel
theorem dX5_setTime_8 : decode cX5_setTime 8 = .ok (.aload_n 0, 1) := by decide +kernel
theorem dX5_setTime_9 : decode cX5_setTime 9 = .ok (.iload_n 1, 1) := by decide +kernel
theorem dX5_setTime_10 : decode cX5_setTime 10 = .ok (.bipush 24, 2) := by decide +kernel
theorem dX5_setTime_12 : decode cX5_setTime 12 = .ok (.idiv, 1) := by decide +kernel
theorem dX5_setTime_13 : decode cX5_setTime 13 = .ok (.sipush 365, 3) := by decide +kernel
theorem dX5_setTime_16 : decode cX5_setTime 16 = .ok (.irem, 1) := by decide +kernel
theorem dX5_setTime_17 : decode cX5_setTime 17 = .ok (.putfield 9, 3) := by decide +kernel
theorem dX5_setTime_20 : decode cX5_setTime 20 = .ok (.aload_n 0, 1) := by decide +kernel
theorem dX5_setTime_21 : decode cX5_setTime 21 = .ok (.iload_n 1, 1) := by decide +kernel
theorem dX5_setTime_22 : decode cX5_setTime 22 = .ok (.bipush 24, 2) := by decide +kernel
theorem dX5_setTime_24 : decode cX5_setTime 24 = .ok (.idiv, 1) := by decide +kernel
theorem dX5_setTime_25 : decode cX5_setTime 25 = .ok (.sipush 365, 3) := by decide +kernel
theorem dX5_setTime_28 : decode cX5_setTime 28 = .ok (.idiv, 1) := by decide +kernel
theorem dX5_setTime_29 : decode cX5_setTime 29 = .ok (.putfield 18, 3) := by decide +kernel
theorem dX5_setTime_32 : decode cX5_setTime 32 = .ok (.return_, 1) := by decide +kernel
set_option maxRecDepth 20000 in
theorem ggX5_leastTwoWith_X6_isPerson : GoodIn wsX5_leastTwoWith wsX6_isPerson := goodIn_r _ [11, 12, 13, 10, 14] (by decide +kernel) (by decide +kernel)
set_option maxRecDepth 20000 in
theorem gX5_leastTwoWith_X6_isPerson_n63 : GoodIn wsX5_leastTwoWith (wsX6_isPerson) := ggX5_leastTwoWith_X6_isPerson
theorem dX5_leastTwoWith_0 : decode cX5_leastTwoWith 0 = .ok (.iload_n 1, 1) := by decide +kernel
theorem dX5_leastTwoWith_1 : decode cX5_leastTwoWith 1 = .ok (.invokestatic 63, 3) := by decide +kernel
theorem dX5_leastTwoWith_4 : decode cX5_leastTwoWith 4 = .ok (.ifCond .eq 14, 3) := by decide +kernel
theorem dX5_leastTwoWith_7 : decode cX5_leastTwoWith 7 = .ok (.aload_n 0, 1) := by decide +kernel
theorem dX5_leastTwoWith_8 : decode cX5_leastTwoWith 8 = .ok (.getfield 27, 3) := by decide +kernel
theorem dX5_leastTwoWith_11 : decode cX5_leastTwoWith 11 = .ok (.iload_n 1, 1) := by decide +kernel
theorem dX5_leastTwoWith_12 : decode cX5_leastTwoWith 12 = .ok (.iaload, 1) := by decide +kernel
theorem dX5_leastTwoWith_13 : decode cX5_leastTwoWith 13 = .ok (.bipush (-6), 2) := by decide +kernel
theorem dX5_leastTwoWith_15 : decode cX5_leastTwoWith 15 = .ok (.if_icmp .ne 6, 3) := by decide +kernel
theorem dX5_leastTwoWith_18 : decode cX5_leastTwoWith 18 = .ok (.bipush (-6), 2) := by decide +kernel
theorem dX5_leastTwoWith_20 : decode cX5_leastTwoWith 20 = .ok (.ireturn, 1) := by decide +kernel
theorem dX5_leastTwoWith_21 : decode cX5_leastTwoWith 21 = .ok (.iconst 0, 1) := by decide +kernel
theorem dX5_leastTwoWith_22 : decode cX5_leastTwoWith 22 = .ok (.istore_n 2, 1) := by decide +kernel
theorem dX5_leastTwoWith_23 : decode cX5_leastTwoWith 23 = .ok (.iload_n 2, 1) := by decide +kernel
theorem dX5_leastTwoWith_24 : decode cX5_leastTwoWith 24 = .ok (.bipush 6, 2) := by decide +kernel
theorem dX5_leastTwoWith_26 : decode cX5_leastTwoWith 26 = .ok (.if_icmp .ge 44, 3) := by decide +kernel
theorem dX5_leastTwoWith_29 : decode cX5_leastTwoWith 29 = .ok (.iload_n 2, 1) := by decide +kernel
theorem dX5_leastTwoWith_30 : decode cX5_leastTwoWith 30 = .ok (.iload_n 1, 1) := by decide +kernel
theorem dX5_leastTwoWith_31 : decode cX5_leastTwoWith 31 = .ok (.if_icmp .eq 33, 3) := by decide +kernel
theorem dX5_leastTwoWith_34 : decode cX5_leastTwoWith 34 = .ok (.aload_n 0, 1) := by decide +kernel
theorem dX5_leastTwoWith_35 : decode cX5_leastTwoWith 35 = .ok (.getfield 27, 3) := by decide +kernel
theorem dX5_leastTwoWith_38 : decode cX5_leastTwoWith 38 = .ok (.iload_n 2, 1) := by decide +kernel
theorem dX5_leastTwoWith_39 : decode cX5_leastTwoWith 39 = .ok (.iaload, 1) := by decide +kernel
theorem dX5_leastTwoWith_40 : decode cX5_leastTwoWith 40 = .ok (.aload_n 0, 1) := by decide +kernel
theorem dX5_leastTwoWith_41 : decode cX5_leastTwoWith 41 = .ok (.getfield 27, 3) := by decide +kernel
theorem dX5_leastTwoWith_44 : decode cX5_leastTwoWith 44 = .ok (.iload_n 1, 1) := by decide +kernel
theorem dX5_leastTwoWith_45 : decode cX5_leastTwoWith 45 = .ok (.iaload, 1) := by decide +kernel
theorem dX5_leastTwoWith_46 : decode cX5_leastTwoWith 46 = .ok (.if_icmp .ne 18, 3) := by decide +kernel
theorem dX5_leastTwoWith_49 : decode cX5_leastTwoWith 49 = .ok (.bipush 10, 2) := by decide +kernel
theorem dX5_leastTwoWith_51 : decode cX5_leastTwoWith 51 = .ok (.iload_n 2, 1) := by decide +kernel
theorem dX5_leastTwoWith_52 : decode cX5_leastTwoWith 52 = .ok (.iload_n 1, 1) := by decide +kernel
theorem dX5_leastTwoWith_53 : decode cX5_leastTwoWith 53 = .ok (.invokestatic 97, 3) := by decide +kernel
theorem dX5_leastTwoWith_56 : decode cX5_leastTwoWith 56 = .ok (.imul, 1) := by decide +kernel
theorem dX5_leastTwoWith_57 : decode cX5_leastTwoWith 57 = .ok (.iload_n 2, 1) := by decide +kernel
theorem dX5_leastTwoWith_58 : decode cX5_leastTwoWith 58 = .ok (.iload_n 1, 1) := by decide +kernel
theorem dX5_leastTwoWith_59 : decode cX5_leastTwoWith 59 = .ok (.invokestatic 103, 3) := by decide +kernel
theorem dX5_leastTwoWith_62 : decode cX5_leastTwoWith 62 = .ok (.iadd, 1) := by decide +kernel
theorem dX5_leastTwoWith_63 : decode cX5_leastTwoWith 63 = .ok (.ireturn, 1) := by decide +kernel
theorem dX5_leastTwoWith_64 : decode cX5_leastTwoWith 64 = .ok (.iinc 2 1, 3) := by decide +kernel
theorem dX5_leastTwoWith_67 : decode cX5_leastTwoWith 67 = .ok (.goto (-44), 3) := by decide +kernel
theorem dX5_leastTwoWith_70 : decode cX5_leastTwoWith 70 = .ok (.bipush (-6), 2) := by decide +kernel
theorem dX5_leastTwoWith_72 : decode cX5_leastTwoWith 72 = .ok (.ireturn, 1) := by decide +kernel
set_option maxRecDepth 20000 in
theorem ggX6_init_X5_init : GoodIn wsX6_init wsX5_init := goodIn_r _ [26, 27, 2, 3, 28, 29, 30, 31, 32, 33, 34, 35, 36, 76, 77, 78, 79, 80, 81, 82, 83] (by decide +kernel) (by decide +kernel)
set_option maxRecDepth 20000 in
theorem gX6_init_X5_init : GoodIn wsX6_init (wsX5_init) := ggX6_init_X5_init
set_option maxRecDepth 20000 in
theorem ggX6_init_X3_init : GoodIn wsX6_init wsX3_init := goodIn_r _ [38, 39, 2, 3, 40, 33, 41, 42, 43, 89, 90, 91] (by decide +kernel) (by decide +kernel)
set_option maxRecDepth 20000 in
theorem gX6_init_X3_init_n18 : GoodIn wsX6_init (wsX3_init) := ggX6_init_X3_init
set_option maxRecDepth 20000 in
theorem ggX6_init_X2_init : GoodIn wsX6_init wsX2_init := goodIn_r _ [45, 46, 2, 3, 47, 33, 48, 92, 93] (by decide +kernel) (by decide +kernel)
set_option maxRecDepth 20000 in
theorem gX6_init_X2_init_n25 : GoodIn wsX6_init (wsX2_init) := ggX6_init_X2_init
set_option maxRecDepth 20000 in
theorem ggX6_init_X4_init : GoodIn wsX6_init wsX4_init := goodIn_r _ [50, 51, 2, 3, 52, 5, 6, 53, 54, 55, 56, 57, 58, 59, 60, 61, 62, 63, 25, 26, 27, 28, 29, 30, 31, 32, 33, 34, 35, 36, 64, 65, 66, 76, 77, 78, 79, 80, 81, 82, 83, 94, 95, 96, 97, 98, 99, 100, 104, 105, 106] (by decide +kernel) (by decide +kernel)
set_option maxRecDepth 20000 in
theorem gX6_init_X4_init_n32 : GoodIn wsX6_init (wsX4_init) := ggX6_init_X4_init
set_option maxRecDepth 20000 in
theorem ggX6_init_X1_init : GoodIn wsX6_init wsX1_init := goodIn_r _ [68, 69, 2, 3, 70, 5, 6, 71, 72, 9, 10, 73, 74, 75, 25, 26, 27, 28, 29, 30, 31, 32, 33, 34, 35, 36, 37, 38, 39, 40, 41, 42, 43, 76, 77, 78, 79, 80, 81, 82, 83, 101, 102, 103, 89, 90, 91] (by decide +kernel) (by decide +kernel)
set_option maxRecDepth 20000 in
theorem gX6_init_X1_init_n43 : GoodIn wsX6_init (wsX1_init) := ggX6_init_X1_init
theorem dX6_init_0 : decode cX6_init 0 = .ok (.aload_n 0, 1) := by decide +kernel
theorem dX6_init_1 : decode cX6_init 1 = .ok (.invokespecial 1, 3) := by decide +kernel
theorem dX6_init_4 : decode cX6_init 4 = .ok (.aload_n 0, 1) := by decide +kernel
theorem dX6_init_5 : decode cX6_init 5 = .ok (.new 7, 3) := by decide +kernel
theorem dX6_init_8 : decode cX6_init 8 = .ok (.dup, 1) := by decide +kernel
theorem dX6_init_9 : decode cX6_init 9 = .ok (.invokespecial 9, 3) := by decide +kernel
theorem dX6_init_12 : decode cX6_init 12 = .ok (.putfield 10, 3) := by decide +kernel
theorem dX6_init_15 : decode cX6_init 15 = .ok (.aload_n 0, 1) := by decide +kernel
theorem dX6_init_16 : decode cX6_init 16 = .ok (.new 16, 3) := by decide +kernel
theorem dX6_init_19 : decode cX6_init 19 = .ok (.dup, 1) := by decide +kernel
theorem dX6_init_20 : decode cX6_init 20 = .ok (.invokespecial 18, 3) := by decide +kernel
theorem dX6_init_23 : decode cX6_init 23 = .ok (.putfield 19, 3) := by decide +kernel
theorem dX6_init_26 : decode cX6_init 26 = .ok (.aload_n 0, 1) := by decide +kernel
theorem dX6_init_27 : decode cX6_init 27 = .ok (.new 23, 3) := by decide +kernel
theorem dX6_init_30 : decode cX6_init 30 = .ok (.dup, 1) := by decide +kernel
theorem dX6_init_31 : decode cX6_init 31 = .ok (.invokespecial 25, 3) := by decide +kernel
theorem dX6_init_34 : decode cX6_init 34 = .ok (.putfield 26, 3) := by decide +kernel
theorem dX6_init_37 : decode cX6_init 37 = .ok (.aload_n 0, 1) := by decide +kernel
theorem dX6_init_38 : decode cX6_init 38 = .ok (.new 30, 3) := by decide +kernel
theorem dX6_init_41 : decode cX6_init 41 = .ok (.dup, 1) := by decide +kernel
theorem dX6_init_42 : decode cX6_init 42 = .ok (.invokespecial 32, 3) := by decide +kernel
theorem dX6_init_45 : decode cX6_init 45 = .ok (.putfield 33, 3) := by decide +kernel
theorem dX6_init_48 : decode cX6_init 48 = .ok (.aload_n 0, 1) := by decide +kernel
theorem dX6_init_49 : decode cX6_init 49 = .ok (.iconst 2, 1) := by decide +kernel
theorem dX6_init_50 : decode cX6_init 50 = .ok (.anewarray 37, 3) := by decide +kernel
theorem dX6_init_53 : decode cX6_init 53 = .ok (.putfield 39, 3) := by decide +kernel
theorem dX6_init_56 : decode cX6_init 56 = .ok (.iconst 0, 1) := by decide +kernel
theorem dX6_init_57 : decode cX6_init 57 = .ok (.istore_n 1, 1) := by decide +kernel
theorem dX6_init_58 : decode cX6_init 58 = .ok (.iload_n 1, 1) := by decide +kernel
theorem dX6_init_59 : decode cX6_init 59 = .ok (.aload_n 0, 1) := by decide +kernel
theorem dX6_init_60 : decode cX6_init 60 = .ok (.getfield 39, 3) := by decide +kernel
theorem dX6_init_63 : decode cX6_init 63 = .ok (.arraylength, 1) := by decide +kernel
theorem dX6_init_64 : decode cX6_init 64 = .ok (.if_icmp .ge 22, 3) := by decide +kernel
theorem dX6_init_67 : decode cX6_init 67 = .ok (.aload_n 0, 1) := by decide +kernel
theorem dX6_init_68 : decode cX6_init 68 = .ok (.getfield 39, 3) := by decide +kernel
theorem dX6_init_71 : decode cX6_init 71 = .ok (.iload_n 1, 1) := by decide +kernel
theorem dX6_init_72 : decode cX6_init 72 = .ok (.new 37, 3) := by decide +kernel
theorem dX6_init_75 : decode cX6_init 75 = .ok (.dup, 1) := by decide +kernel
theorem dX6_init_76 : decode cX6_init 76 = .ok (.invokespecial 43, 3) := by decide +kernel
theorem dX6_init_79 : decode cX6_init 79 = .ok (.aastore, 1) := by decide +kernel
theorem dX6_init_80 : decode cX6_init 80 = .ok (.iinc 1 1, 3) := by decide +kernel
theorem dX6_init_83 : decode cX6_init 83 = .ok (.goto (-25), 3) := by decide +kernel
theorem dX6_init_86 : decode cX6_init 86 = .ok (.return_, 1) := by decide +kernel
set_option maxRecDepth 20000 in
theorem ggX6_shift_X6_isIn : GoodIn wsX6_shift wsX6_isIn := goodIn_r _ [6] (by decide +kernel) (by decide +kernel)
set_option maxRecDepth 20000 in
theorem gX6_shift_X6_isIn : GoodIn wsX6_shift (va_wsS RX6 44 yX6_isIn wsX6_isIn) := goodIn_app (goodIn_of _ (by decide +kernel)) ggX6_shift_X6_isIn
set_option maxRecDepth 20000 in
theorem ggX6_shift_X5_whoIsWithin : GoodIn wsX6_shift wsX5_whoIsWithin := goodIn_r _ [11, 12, 23, 24, 25, 26, 27, 28, 29, 30] (by decide +kernel) (by decide +kernel)
set_option maxRecDepth 20000 in
theorem gX6_shift_X5_whoIsWithin : GoodIn wsX6_shift (wsV RX6 48 RX5 yX5_whoIsWithin wsX5_whoIsWithin) := goodIn_app (goodIn_of _ (by decide +kernel)) ggX6_shift_X5_whoIsWithin
set_option maxRecDepth 20000 in
theorem ggX6_shift_X5_liesInAll : GoodIn wsX6_shift wsX5_liesInAll := goodIn_r _ [16, 17, 23, 24, 25, 26, 27, 28, 29, 30] (by decide +kernel) (by decide +kernel)
set_option maxRecDepth 20000 in
theorem gX6_shift_X5_liesInAll : GoodIn wsX6_shift (wsV RX6 52 RX5 yX5_liesInAll wsX5_liesInAll) := goodIn_app (goodIn_of _ (by decide +kernel)) ggX6_shift_X5_liesInAll
theorem dX6_shift_0 : decode cX6_shift 0 = .ok (.iload_n 1, 1) := by decide +kernel
theorem dX6_shift_1 : decode cX6_shift 1 = .ok (.iconst 0, 1) := by decide +kernel
theorem dX6_shift_2 : decode cX6_shift 2 = .ok (.bipush 30, 2) := by decide +kernel
theorem dX6_shift_4 : decode cX6_shift 4 = .ok (.invokestatic 44, 3) := by decide +kernel
theorem dX6_shift_7 : decode cX6_shift 7 = .ok (.ifCond .ne 6, 3) := by decide +kernel
theorem dX6_shift_10 : decode cX6_shift 10 = .ok (.bipush (-2), 2) := by decide +kernel
theorem dX6_shift_12 : decode cX6_shift 12 = .ok (.ireturn, 1) := by decide +kernel
theorem dX6_shift_13 : decode cX6_shift 13 = .ok (.aload_n 0, 1) := by decide +kernel
theorem dX6_shift_14 : decode cX6_shift 14 = .ok (.getfield 10, 3) := by decide +kernel
theorem dX6_shift_17 : decode cX6_shift 17 = .ok (.invokevirtual 48, 3) := by decide +kernel
theorem dX6_shift_20 : decode cX6_shift 20 = .ok (.ifCond .ne 13, 3) := by decide +kernel
theorem dX6_shift_23 : decode cX6_shift 23 = .ok (.aload_n 0, 1) := by decide +kernel
theorem dX6_shift_24 : decode cX6_shift 24 = .ok (.getfield 10, 3) := by decide +kernel
theorem dX6_shift_27 : decode cX6_shift 27 = .ok (.invokevirtual 52, 3) := by decide +kernel
theorem dX6_shift_30 : decode cX6_shift 30 = .ok (.ifCond .eq 6, 3) := by decide +kernel
theorem dX6_shift_33 : decode cX6_shift 33 = .ok (.bipush (-3), 2) := by decide +kernel
theorem dX6_shift_35 : decode cX6_shift 35 = .ok (.ireturn, 1) := by decide +kernel
theorem dX6_shift_36 : decode cX6_shift 36 = .ok (.aload_n 0, 1) := by decide +kernel
theorem dX6_shift_37 : decode cX6_shift 37 = .ok (.getfield 10, 3) := by decide +kernel
theorem dX6_shift_40 : decode cX6_shift 40 = .ok (.getfield 55, 3) := by decide +kernel
theorem dX6_shift_43 : decode cX6_shift 43 = .ok (.istore_n 2, 1) := by decide +kernel
theorem dX6_shift_44 : decode cX6_shift 44 = .ok (.aload_n 0, 1) := by decide +kernel
theorem dX6_shift_45 : decode cX6_shift 45 = .ok (.getfield 10, 3) := by decide +kernel
theorem dX6_shift_48 : decode cX6_shift 48 = .ok (.iload_n 1, 1) := by decide +kernel
theorem dX6_shift_49 : decode cX6_shift 49 = .ok (.putfield 55, 3) := by decide +kernel
theorem dX6_shift_52 : decode cX6_shift 52 = .ok (.iload_n 2, 1) := by decide +kernel
theorem dX6_shift_53 : decode cX6_shift 53 = .ok (.ireturn, 1) := by decide +kernel
set_option maxRecDepth 20000 in
theorem ggX6_kneel_X6_isIn : GoodIn wsX6_kneel wsX6_isIn := goodIn_r _ [6] (by decide +kernel) (by decide +kernel)
set_option maxRecDepth 20000 in
theorem gX6_kneel_X6_isIn : GoodIn wsX6_kneel (va_wsS RX6 44 yX6_isIn wsX6_isIn) := goodIn_app (goodIn_of _ (by decide +kernel)) ggX6_kneel_X6_isIn
theorem dX6_kneel_0 : decode cX6_kneel 0 = .ok (.iload_n 1, 1) := by decide +kernel
theorem dX6_kneel_1 : decode cX6_kneel 1 = .ok (.iconst 0, 1) := by decide +kernel
theorem dX6_kneel_2 : decode cX6_kneel 2 = .ok (.sipush 364, 3) := by decide +kernel
theorem dX6_kneel_5 : decode cX6_kneel 5 = .ok (.invokestatic 44, 3) := by decide +kernel
theorem dX6_kneel_8 : decode cX6_kneel 8 = .ok (.ifCond .ne 6, 3) := by decide +kernel
theorem dX6_kneel_11 : decode cX6_kneel 11 = .ok (.bipush (-2), 2) := by decide +kernel
theorem dX6_kneel_13 : decode cX6_kneel 13 = .ok (.ireturn, 1) := by decide +kernel
theorem dX6_kneel_14 : decode cX6_kneel 14 = .ok (.aload_n 0, 1) := by decide +kernel
theorem dX6_kneel_15 : decode cX6_kneel 15 = .ok (.getfield 10, 3) := by decide +kernel
theorem dX6_kneel_18 : decode cX6_kneel 18 = .ok (.getfield 59, 3) := by decide +kernel
theorem dX6_kneel_21 : decode cX6_kneel 21 = .ok (.istore_n 2, 1) := by decide +kernel
theorem dX6_kneel_22 : decode cX6_kneel 22 = .ok (.aload_n 0, 1) := by decide +kernel
theorem dX6_kneel_23 : decode cX6_kneel 23 = .ok (.getfield 10, 3) := by decide +kernel
theorem dX6_kneel_26 : decode cX6_kneel 26 = .ok (.iload_n 1, 1) := by decide +kernel
theorem dX6_kneel_27 : decode cX6_kneel 27 = .ok (.putfield 59, 3) := by decide +kernel
theorem dX6_kneel_30 : decode cX6_kneel 30 = .ok (.iload_n 2, 1) := by decide +kernel
theorem dX6_kneel_31 : decode cX6_kneel 31 = .ok (.ireturn, 1) := by decide +kernel
set_option maxRecDepth 20000 in
theorem ggX6_clock_X6_isIn : GoodIn wsX6_clock wsX6_isIn := goodIn_r _ [8] (by decide +kernel) (by decide +kernel)
set_option maxRecDepth 20000 in
theorem gX6_clock_X6_isIn : GoodIn wsX6_clock (va_wsS RX6 44 yX6_isIn wsX6_isIn) := goodIn_app (goodIn_of _ (by decide +kernel)) ggX6_clock_X6_isIn
theorem dX6_clock_0 : decode cX6_clock 0 = .ok (.iload_n 1, 1) := by decide +kernel
theorem dX6_clock_1 : decode cX6_clock 1 = .ok (.iconst 0, 1) := by decide +kernel
theorem dX6_clock_2 : decode cX6_clock 2 = .ok (.sipush 364, 3) := by decide +kernel
theorem dX6_clock_5 : decode cX6_clock 5 = .ok (.invokestatic 44, 3) := by decide +kernel
theorem dX6_clock_8 : decode cX6_clock 8 = .ok (.ifCond .eq 23, 3) := by decide +kernel
theorem dX6_clock_11 : decode cX6_clock 11 = .ok (.iload_n 2, 1) := by decide +kernel
theorem dX6_clock_12 : decode cX6_clock 12 = .ok (.iconst 0, 1) := by decide +kernel
theorem dX6_clock_13 : decode cX6_clock 13 = .ok (.bipush 23, 2) := by decide +kernel
theorem dX6_clock_15 : decode cX6_clock 15 = .ok (.invokestatic 44, 3) := by decide +kernel
theorem dX6_clock_18 : decode cX6_clock 18 = .ok (.ifCond .eq 13, 3) := by decide +kernel
theorem dX6_clock_21 : decode cX6_clock 21 = .ok (.iload_n 3, 1) := by decide +kernel
theorem dX6_clock_22 : decode cX6_clock 22 = .ok (.iconst 0, 1) := by decide +kernel
theorem dX6_clock_23 : decode cX6_clock 23 = .ok (.bipush 99, 2) := by decide +kernel
theorem dX6_clock_25 : decode cX6_clock 25 = .ok (.invokestatic 44, 3) := by decide +kernel
theorem dX6_clock_28 : decode cX6_clock 28 = .ok (.ifCond .ne 6, 3) := by decide +kernel
theorem dX6_clock_31 : decode cX6_clock 31 = .ok (.bipush (-2), 2) := by decide +kernel
theorem dX6_clock_33 : decode cX6_clock 33 = .ok (.ireturn, 1) := by decide +kernel
theorem dX6_clock_34 : decode cX6_clock 34 = .ok (.sipush 10000, 3) := by decide +kernel
theorem dX6_clock_37 : decode cX6_clock 37 = .ok (.aload_n 0, 1) := by decide +kernel
theorem dX6_clock_38 : decode cX6_clock 38 = .ok (.getfield 10, 3) := by decide +kernel
theorem dX6_clock_41 : decode cX6_clock 41 = .ok (.getfield 62, 3) := by decide +kernel
theorem dX6_clock_44 : decode cX6_clock 44 = .ok (.imul, 1) := by decide +kernel
theorem dX6_clock_45 : decode cX6_clock 45 = .ok (.bipush 100, 2) := by decide +kernel
theorem dX6_clock_47 : decode cX6_clock 47 = .ok (.aload_n 0, 1) := by decide +kernel
theorem dX6_clock_48 : decode cX6_clock 48 = .ok (.getfield 10, 3) := by decide +kernel
theorem dX6_clock_51 : decode cX6_clock 51 = .ok (.getfield 65, 3) := by decide +kernel
theorem dX6_clock_54 : decode cX6_clock 54 = .ok (.imul, 1) := by decide +kernel
theorem dX6_clock_55 : decode cX6_clock 55 = .ok (.iadd, 1) := by decide +kernel
theorem dX6_clock_56 : decode cX6_clock 56 = .ok (.aload_n 0, 1) := by decide +kernel
theorem dX6_clock_57 : decode cX6_clock 57 = .ok (.getfield 10, 3) := by decide +kernel
theorem dX6_clock_60 : decode cX6_clock 60 = .ok (.getfield 68, 3) := by decide +kernel
theorem dX6_clock_63 : decode cX6_clock 63 = .ok (.iadd, 1) := by decide +kernel
theorem dX6_clock_64 : decode cX6_clock 64 = .ok (.istore 4, 2) := by decide +kernel
theorem dX6_clock_66 : decode cX6_clock 66 = .ok (.aload_n 0, 1) := by decide +kernel
theorem dX6_clock_67 : decode cX6_clock 67 = .ok (.getfield 10, 3) := by decide +kernel
theorem dX6_clock_70 : decode cX6_clock 70 = .ok (.iload_n 1, 1) := by decide +kernel
theorem dX6_clock_71 : decode cX6_clock 71 = .ok (.putfield 62, 3) := by decide +kernel
theorem dX6_clock_74 : decode cX6_clock 74 = .ok (.aload_n 0, 1) := by decide +kernel
theorem dX6_clock_75 : decode cX6_clock 75 = .ok (.getfield 10, 3) := by decide +kernel
theorem dX6_clock_78 : decode cX6_clock 78 = .ok (.iload_n 2, 1) := by decide +kernel
theorem dX6_clock_79 : decode cX6_clock 79 = .ok (.putfield 65, 3) := by decide +kernel
theorem dX6_clock_82 : decode cX6_clock 82 = .ok (.aload_n 0, 1) := by decide +kernel
theorem dX6_clock_83 : decode cX6_clock 83 = .ok (.getfield 10, 3) := by decide +kernel
theorem dX6_clock_86 : decode cX6_clock 86 = .ok (.iload_n 3, 1) := by decide +kernel
theorem dX6_clock_87 : decode cX6_clock 87 = .ok (.putfield 68, 3) := by decide +kernel
theorem dX6_clock_90 : decode cX6_clock 90 = .ok (.iload 4, 2) := by decide +kernel
theorem dX6_clock_92 : decode cX6_clock 92 = .ok (.ireturn, 1) := by decide +kernel
set_option maxRecDepth 20000 in
theorem ggX6_person_X6_isPerson : GoodIn wsX6_person wsX6_isPerson := goodIn_r _ [6, 7, 8, 5, 9] (by decide +kernel) (by decide +kernel)
set_option maxRecDepth 20000 in
theorem gX6_person_X6_isPerson : GoodIn wsX6_person (va_wsS RX6 71 yX6_isPerson wsX6_isPerson) := goodIn_app (goodIn_of _ (by decide +kernel)) ggX6_person_X6_isPerson
set_option maxRecDepth 20000 in
theorem ggX6_person_X6_isIn : GoodIn wsX6_person wsX6_isIn := goodIn_r _ [9] (by decide +kernel) (by decide +kernel)
set_option maxRecDepth 20000 in
theorem gX6_person_X6_isIn : GoodIn wsX6_person (va_wsS RX6 44 yX6_isIn wsX6_isIn) := goodIn_app (goodIn_of _ (by decide +kernel)) ggX6_person_X6_isIn
theorem dX6_person_0 : decode cX6_person 0 = .ok (.iload_n 1, 1) := by decide +kernel
theorem dX6_person_1 : decode cX6_person 1 = .ok (.invokestatic 71, 3) := by decide +kernel
theorem dX6_person_4 : decode cX6_person 4 = .ok (.ifCond .ne 5, 3) := by decide +kernel
theorem dX6_person_7 : decode cX6_person 7 = .ok (.iconst (-1), 1) := by decide +kernel
theorem dX6_person_8 : decode cX6_person 8 = .ok (.ireturn, 1) := by decide +kernel
theorem dX6_person_9 : decode cX6_person 9 = .ok (.iload_n 2, 1) := by decide +kernel
theorem dX6_person_10 : decode cX6_person 10 = .ok (.iconst 0, 1) := by decide +kernel
theorem dX6_person_11 : decode cX6_person 11 = .ok (.bipush 99, 2) := by decide +kernel
theorem dX6_person_13 : decode cX6_person 13 = .ok (.invokestatic 44, 3) := by decide +kernel
theorem dX6_person_16 : decode cX6_person 16 = .ok (.ifCond .ne 6, 3) := by decide +kernel
theorem dX6_person_19 : decode cX6_person 19 = .ok (.bipush (-2), 2) := by decide +kernel
theorem dX6_person_21 : decode cX6_person 21 = .ok (.ireturn, 1) := by decide +kernel
theorem dX6_person_22 : decode cX6_person 22 = .ok (.aload_n 0, 1) := by decide +kernel
theorem dX6_person_23 : decode cX6_person 23 = .ok (.getfield 10, 3) := by decide +kernel
theorem dX6_person_26 : decode cX6_person 26 = .ok (.getfield 75, 3) := by decide +kernel
theorem dX6_person_29 : decode cX6_person 29 = .ok (.iload_n 1, 1) := by decide +kernel
theorem dX6_person_30 : decode cX6_person 30 = .ok (.iaload, 1) := by decide +kernel
theorem dX6_person_31 : decode cX6_person 31 = .ok (.istore_n 3, 1) := by decide +kernel
theorem dX6_person_32 : decode cX6_person 32 = .ok (.aload_n 0, 1) := by decide +kernel
theorem dX6_person_33 : decode cX6_person 33 = .ok (.getfield 10, 3) := by decide +kernel
theorem dX6_person_36 : decode cX6_person 36 = .ok (.getfield 75, 3) := by decide +kernel
theorem dX6_person_39 : decode cX6_person 39 = .ok (.iload_n 1, 1) := by decide +kernel
theorem dX6_person_40 : decode cX6_person 40 = .ok (.iload_n 2, 1) := by decide +kernel
theorem dX6_person_41 : decode cX6_person 41 = .ok (.iastore, 1) := by decide +kernel
theorem dX6_person_42 : decode cX6_person 42 = .ok (.iload_n 3, 1) := by decide +kernel
theorem dX6_person_43 : decode cX6_person 43 = .ok (.ireturn, 1) := by decide +kernel
set_option maxRecDepth 20000 in
theorem ggX6_say_X6_isIn : GoodIn wsX6_say wsX6_isIn := goodIn_r _ [6] (by decide +kernel) (by decide +kernel)
set_option maxRecDepth 20000 in
theorem gX6_say_X6_isIn : GoodIn wsX6_say (va_wsS RX6 44 yX6_isIn wsX6_isIn) := goodIn_app (goodIn_of _ (by decide +kernel)) ggX6_say_X6_isIn
set_option maxRecDepth 20000 in
theorem ggX6_say_X2_add : GoodIn wsX6_say wsX2_add := goodIn_r _ [11, 12, 13, 4, 5, 6, 19, 20] (by decide +kernel) (by decide +kernel)
set_option maxRecDepth 20000 in
theorem gX6_say_X2_add : GoodIn wsX6_say (wsV RX6 79 RX2 yX2_add wsX2_add) := goodIn_app (goodIn_of _ (by decide +kernel)) ggX6_say_X2_add
theorem dX6_say_0 : decode cX6_say 0 = .ok (.iload_n 1, 1) := by decide +kernel
theorem dX6_say_1 : decode cX6_say 1 = .ok (.bipush 33, 2) := by decide +kernel
theorem dX6_say_3 : decode cX6_say 3 = .ok (.bipush 126, 2) := by decide +kernel
theorem dX6_say_5 : decode cX6_say 5 = .ok (.invokestatic 44, 3) := by decide +kernel
theorem dX6_say_8 : decode cX6_say 8 = .ok (.ifCond .ne 6, 3) := by decide +kernel
theorem dX6_say_11 : decode cX6_say 11 = .ok (.bipush (-2), 2) := by decide +kernel
theorem dX6_say_13 : decode cX6_say 13 = .ok (.ireturn, 1) := by decide +kernel
theorem dX6_say_14 : decode cX6_say 14 = .ok (.aload_n 0, 1) := by decide +kernel
theorem dX6_say_15 : decode cX6_say 15 = .ok (.getfield 26, 3) := by decide +kernel
theorem dX6_say_18 : decode cX6_say 18 = .ok (.iload_n 1, 1) := by decide +kernel
theorem dX6_say_19 : decode cX6_say 19 = .ok (.invokevirtual 79, 3) := by decide +kernel
theorem dX6_say_22 : decode cX6_say 22 = .ok (.ifCond .eq 13, 3) := by decide +kernel
theorem dX6_say_25 : decode cX6_say 25 = .ok (.aload_n 0, 1) := by decide +kernel
theorem dX6_say_26 : decode cX6_say 26 = .ok (.getfield 26, 3) := by decide +kernel
theorem dX6_say_29 : decode cX6_say 29 = .ok (.getfield 82, 3) := by decide +kernel
theorem dX6_say_32 : decode cX6_say 32 = .ok (.goto 5, 3) := by decide +kernel
theorem dX6_say_35 : decode cX6_say 35 = .ok (.bipush (-4), 2) := by decide +kernel
theorem dX6_say_37 : decode cX6_say 37 = .ok (.ireturn, 1) := by decide +kernel
theorem dX6_wipe_0 : decode cX6_wipe 0 = .ok (.aload_n 0, 1) := by decide +kernel
theorem dX6_wipe_1 : decode cX6_wipe 1 = .ok (.getfield 26, 3) := by decide +kernel
theorem dX6_wipe_4 : decode cX6_wipe 4 = .ok (.getfield 82, 3) := by decide +kernel
theorem dX6_wipe_7 : decode cX6_wipe 7 = .ok (.istore_n 1, 1) := by decide +kernel
theorem dX6_wipe_8 : decode cX6_wipe 8 = .ok (.aload_n 0, 1) := by decide +kernel
theorem dX6_wipe_9 : decode cX6_wipe 9 = .ok (.getfield 26, 3) := by decide +kernel
theorem dX6_wipe_12 : decode cX6_wipe 12 = .ok (.iconst 0, 1) := by decide +kernel
theorem dX6_wipe_13 : decode cX6_wipe 13 = .ok (.putfield 82, 3) := by decide +kernel
theorem dX6_wipe_16 : decode cX6_wipe 16 = .ok (.iload_n 1, 1) := by decide +kernel
theorem dX6_wipe_17 : decode cX6_wipe 17 = .ok (.ireturn, 1) := by decide +kernel
set_option maxRecDepth 20000 in
theorem ggX6_fault_X2_firstFault : GoodIn wsX6_fault wsX2_firstFault := goodIn_r _ [6, 7, 8, 9, 10, 5, 11, 12, 13, 14, 15, 16, 17, 18, 19, 20, 21, 22, 23, 24, 25, 31, 32] (by decide +kernel) (by decide +kernel)
set_option maxRecDepth 20000 in
theorem gX6_fault_X2_firstFault : GoodIn wsX6_fault (wsV RX6 85 RX2 yX2_firstFault wsX2_firstFault) := goodIn_app (goodIn_of _ (by decide +kernel)) ggX6_fault_X2_firstFault
theorem dX6_fault_0 : decode cX6_fault 0 = .ok (.aload_n 0, 1) := by decide +kernel
theorem dX6_fault_1 : decode cX6_fault 1 = .ok (.getfield 26, 3) := by decide +kernel
theorem dX6_fault_4 : decode cX6_fault 4 = .ok (.invokevirtual 85, 3) := by decide +kernel
theorem dX6_fault_7 : decode cX6_fault 7 = .ok (.ireturn, 1) := by decide +kernel
set_option maxRecDepth 20000 in
theorem ggX6_judge_X6_isIn : GoodIn wsX6_judge wsX6_isIn := goodIn_r _ [9] (by decide +kernel) (by decide +kernel)
set_option maxRecDepth 20000 in
theorem gX6_judge_X6_isIn : GoodIn wsX6_judge (va_wsS RX6 44 yX6_isIn wsX6_isIn) := goodIn_app (goodIn_of _ (by decide +kernel)) ggX6_judge_X6_isIn
set_option maxRecDepth 20000 in
theorem ggX6_judge_X2_firstFault : GoodIn wsX6_judge wsX2_firstFault := goodIn_r _ [14, 15, 16, 17, 18, 13, 19, 20, 21, 22, 23, 24, 7, 8, 9, 25, 26, 27, 28, 29, 30, 147, 148] (by decide +kernel) (by decide +kernel)
set_option maxRecDepth 20000 in
theorem gX6_judge_X2_firstFault : GoodIn wsX6_judge (wsV RX6 85 RX2 yX2_firstFault wsX2_firstFault) := goodIn_app (goodIn_of _ (by decide +kernel)) ggX6_judge_X2_firstFault
set_option maxRecDepth 20000 in
theorem ggX6_judge_X4_tell : GoodIn wsX6_judge wsX4_tell := goodIn_r _ [35, 36, 37, 38, 39, 40, 41, 42, 43, 44, 45, 46, 47, 48, 49, 50, 51, 52, 53, 54, 55, 56, 57, 58, 59, 60, 61, 62, 63, 13, 64, 65, 66, 67, 16, 17, 18, 19, 15, 20, 21, 22, 23, 24, 7, 8, 9, 28, 29, 30, 68, 69, 70, 71, 72, 73, 74, 75, 76, 77, 78, 79, 80, 81, 82, 83, 84, 85, 86, 87, 88, 89, 90, 91, 92, 6, 93, 94, 95, 96, 97, 98, 99, 100, 101, 102, 103, 104, 105, 106, 107, 108, 109, 110, 111, 112, 113, 114, 115, 116, 117, 118, 119, 120, 121, 122, 123, 34, 124, 125, 126, 127, 128, 129, 130, 131, 132, 133, 134, 140, 141, 142, 143, 144, 145, 146, 147, 148, 149, 150, 151, 152, 153, 154, 155, 156, 157, 158, 159] (by decide +kernel) (by decide +kernel)
set_option maxRecDepth 20000 in
theorem gX6_judge_X4_tell : GoodIn wsX6_judge (wsV RX6 88 RX4 yX4_tell wsX4_tell) := goodIn_app (goodIn_of _ (by decide +kernel)) ggX6_judge_X4_tell
theorem dX6_judge_0 : decode cX6_judge 0 = .ok (.iload_n 1, 1) := by decide +kernel
theorem dX6_judge_1 : decode cX6_judge 1 = .ok (.iconst 0, 1) := by decide +kernel
theorem dX6_judge_2 : decode cX6_judge 2 = .ok (.iconst 1, 1) := by decide +kernel
theorem dX6_judge_3 : decode cX6_judge 3 = .ok (.invokestatic 44, 3) := by decide +kernel
theorem dX6_judge_6 : decode cX6_judge 6 = .ok (.ifCond .ne 6, 3) := by decide +kernel
theorem dX6_judge_9 : decode cX6_judge 9 = .ok (.bipush (-2), 2) := by decide +kernel
theorem dX6_judge_11 : decode cX6_judge 11 = .ok (.ireturn, 1) := by decide +kernel
theorem dX6_judge_12 : decode cX6_judge 12 = .ok (.aload_n 0, 1) := by decide +kernel
theorem dX6_judge_13 : decode cX6_judge 13 = .ok (.getfield 26, 3) := by decide +kernel
theorem dX6_judge_16 : decode cX6_judge 16 = .ok (.invokevirtual 85, 3) := by decide +kernel
theorem dX6_judge_19 : decode cX6_judge 19 = .ok (.bipush (-6), 2) := by decide +kernel
theorem dX6_judge_21 : decode cX6_judge 21 = .ok (.if_icmp .eq 6, 3) := by decide +kernel
theorem dX6_judge_24 : decode cX6_judge 24 = .ok (.bipush (-5), 2) := by decide +kernel
theorem dX6_judge_26 : decode cX6_judge 26 = .ok (.ireturn, 1) := by decide +kernel
theorem dX6_judge_27 : decode cX6_judge 27 = .ok (.aload_n 0, 1) := by decide +kernel
theorem dX6_judge_28 : decode cX6_judge 28 = .ok (.getfield 33, 3) := by decide +kernel
theorem dX6_judge_31 : decode cX6_judge 31 = .ok (.aload_n 0, 1) := by decide +kernel
theorem dX6_judge_32 : decode cX6_judge 32 = .ok (.getfield 10, 3) := by decide +kernel
theorem dX6_judge_35 : decode cX6_judge 35 = .ok (.aload_n 0, 1) := by decide +kernel
theorem dX6_judge_36 : decode cX6_judge 36 = .ok (.getfield 26, 3) := by decide +kernel
theorem dX6_judge_39 : decode cX6_judge 39 = .ok (.invokevirtual 88, 3) := by decide +kernel
theorem dX6_judge_42 : decode cX6_judge 42 = .ok (.iload_n 1, 1) := by decide +kernel
theorem dX6_judge_43 : decode cX6_judge 43 = .ok (.ifCond .ne 13, 3) := by decide +kernel
theorem dX6_judge_46 : decode cX6_judge 46 = .ok (.aload_n 0, 1) := by decide +kernel
theorem dX6_judge_47 : decode cX6_judge 47 = .ok (.getfield 33, 3) := by decide +kernel
theorem dX6_judge_50 : decode cX6_judge 50 = .ok (.getfield 92, 3) := by decide +kernel
theorem dX6_judge_53 : decode cX6_judge 53 = .ok (.goto 10, 3) := by decide +kernel
theorem dX6_judge_56 : decode cX6_judge 56 = .ok (.aload_n 0, 1) := by decide +kernel
theorem dX6_judge_57 : decode cX6_judge 57 = .ok (.getfield 33, 3) := by decide +kernel
theorem dX6_judge_60 : decode cX6_judge 60 = .ok (.getfield 95, 3) := by decide +kernel
theorem dX6_judge_63 : decode cX6_judge 63 = .ok (.ireturn, 1) := by decide +kernel
set_option maxRecDepth 20000 in
theorem ggX6_done_X6_canBeTold : GoodIn wsX6_done wsX6_canBeTold := goodIn_r _ [11, 4, 2, 1, 12, 13, 14, 15, 16, 17, 18, 19, 20, 21, 22, 23, 24, 25, 26, 27, 28, 10, 29, 30, 31, 32, 33, 34, 35, 36, 37, 38, 39, 40, 41, 42, 43, 44, 45, 46, 47, 48, 49, 50, 51, 52, 53, 54, 55, 56, 57, 58, 59, 60, 61, 62, 63, 64, 65, 66, 67, 68, 69, 70, 71, 72, 73, 74, 75, 76, 77, 78, 79, 80, 81, 82, 83, 84, 85, 86, 87, 88, 89, 90, 91, 92, 93, 94, 95, 96, 97, 98, 99, 100, 101, 102, 103, 104, 105, 106, 107, 108, 109, 110, 111, 112, 113, 114, 115, 116, 117, 118, 119, 120, 121, 122, 123, 124, 125, 126, 127, 128, 129, 130, 131, 132, 133, 134, 135, 136, 137, 138, 139, 140, 142, 143, 144, 145, 146, 147, 148, 149, 150, 151, 152, 153, 154, 155, 156, 157, 158, 159, 160, 161, 162, 163, 164, 165, 166] (by decide +kernel) (by decide +kernel)
set_option maxRecDepth 20000 in
theorem gX6_done_X6_canBeTold : GoodIn wsX6_done (wsV RX6 98 RX6 yX6_canBeTold wsX6_canBeTold) := goodIn_app (goodIn_of _ (by decide +kernel)) ggX6_done_X6_canBeTold
set_option maxRecDepth 20000 in
theorem ggX6_done_X5_become : GoodIn wsX6_done wsX5_become := goodIn_r _ [53, 54, 55, 56, 57, 58, 59, 60, 61, 62, 63, 64, 65, 156, 157, 158, 159, 160, 161, 162, 163] (by decide +kernel) (by decide +kernel)
set_option maxRecDepth 20000 in
theorem gX6_done_X5_become : GoodIn wsX6_done (wsV RX6 105 RX5 yX5_become wsX5_become) := goodIn_app (goodIn_of _ (by decide +kernel)) ggX6_done_X5_become
theorem dX6_done_0 : decode cX6_done 0 = .ok (.aload_n 0, 1) := by decide +kernel
theorem dX6_done_1 : decode cX6_done 1 = .ok (.invokevirtual 98, 3) := by decide +kernel
theorem dX6_done_4 : decode cX6_done 4 = .ok (.ifCond .ne 6, 3) := by decide +kernel
theorem dX6_done_7 : decode cX6_done 7 = .ok (.bipush (-5), 2) := by decide +kernel
theorem dX6_done_9 : decode cX6_done 9 = .ok (.ireturn, 1) := by decide +kernel
theorem dX6_done_10 : decode cX6_done 10 = .ok (.aload_n 0, 1) := by decide +kernel
theorem dX6_done_11 : decode cX6_done 11 = .ok (.getfield 10, 3) := by decide +kernel
theorem dX6_done_14 : decode cX6_done 14 = .ok (.aload_n 0, 1) := by decide +kernel
theorem dX6_done_15 : decode cX6_done 15 = .ok (.getfield 33, 3) := by decide +kernel
theorem dX6_done_18 : decode cX6_done 18 = .ok (.getfield 102, 3) := by decide +kernel
theorem dX6_done_21 : decode cX6_done 21 = .ok (.invokevirtual 105, 3) := by decide +kernel
theorem dX6_done_24 : decode cX6_done 24 = .ok (.aload_n 0, 1) := by decide +kernel
theorem dX6_done_25 : decode cX6_done 25 = .ok (.getfield 26, 3) := by decide +kernel
theorem dX6_done_28 : decode cX6_done 28 = .ok (.iconst 0, 1) := by decide +kernel
theorem dX6_done_29 : decode cX6_done 29 = .ok (.putfield 82, 3) := by decide +kernel
theorem dX6_done_32 : decode cX6_done 32 = .ok (.aload_n 0, 1) := by decide +kernel
theorem dX6_done_33 : decode cX6_done 33 = .ok (.getfield 33, 3) := by decide +kernel
theorem dX6_done_36 : decode cX6_done 36 = .ok (.getfield 109, 3) := by decide +kernel
theorem dX6_done_39 : decode cX6_done 39 = .ok (.ireturn, 1) := by decide +kernel
set_option maxRecDepth 20000 in
theorem ggX6_behind_X6_isPerson : GoodIn wsX6_behind wsX6_isPerson := goodIn_r _ [8, 9, 10, 7, 11] (by decide +kernel) (by decide +kernel)
set_option maxRecDepth 20000 in
theorem gX6_behind_X6_isPerson : GoodIn wsX6_behind (va_wsS RX6 71 yX6_isPerson wsX6_isPerson) := goodIn_app (goodIn_of _ (by decide +kernel)) ggX6_behind_X6_isPerson
set_option maxRecDepth 20000 in
theorem ggX6_behind_X6_isIn : GoodIn wsX6_behind wsX6_isIn := goodIn_r _ [11] (by decide +kernel) (by decide +kernel)
set_option maxRecDepth 20000 in
theorem gX6_behind_X6_isIn : GoodIn wsX6_behind (va_wsS RX6 44 yX6_isIn wsX6_isIn) := goodIn_app (goodIn_of _ (by decide +kernel)) ggX6_behind_X6_isIn
set_option maxRecDepth 20000 in
theorem ggX6_behind_X6_canBeTold : GoodIn wsX6_behind wsX6_canBeTold := goodIn_r _ [15, 16, 1, 17, 18, 19, 20, 21, 22, 23, 24, 25, 26, 27, 28, 29, 30, 31, 32, 33, 10, 7, 11, 34, 35, 36, 37, 38, 39, 40, 41, 42, 43, 44, 45, 46, 47, 48, 49, 50, 51, 52, 53, 54, 55, 56, 57, 58, 59, 60, 61, 62, 63, 64, 65, 66, 67, 68, 69, 70, 71, 72, 73, 74, 75, 76, 77, 78, 79, 80, 81, 82, 83, 84, 85, 86, 87, 88, 89, 90, 91, 92, 93, 94, 95, 96, 97, 98, 99, 6, 8, 9, 100, 101, 102, 103, 104, 105, 106, 107, 108, 109, 110, 111, 112, 113, 114, 115, 116, 117, 118, 119, 120, 121, 122, 123, 124, 125, 126, 127, 128, 129, 130, 131, 132, 133, 134, 135, 136, 137, 138, 139, 140, 141, 142, 143, 144, 145, 146, 147, 148, 149, 150, 151, 152, 153, 162, 163, 154, 155, 156, 157, 158, 159, 160, 161, 164, 165, 166] (by decide +kernel) (by decide +kernel)
set_option maxRecDepth 20000 in
theorem gX6_behind_X6_canBeTold : GoodIn wsX6_behind (wsV RX6 98 RX6 yX6_canBeTold wsX6_canBeTold) := goodIn_app (goodIn_of _ (by decide +kernel)) ggX6_behind_X6_canBeTold
theorem dX6_behind_0 : decode cX6_behind 0 = .ok (.iload_n 1, 1) := by decide +kernel
theorem dX6_behind_1 : decode cX6_behind 1 = .ok (.invokestatic 71, 3) := by decide +kernel
theorem dX6_behind_4 : decode cX6_behind 4 = .ok (.ifCond .ne 5, 3) := by decide +kernel
theorem dX6_behind_7 : decode cX6_behind 7 = .ok (.iconst (-1), 1) := by decide +kernel
theorem dX6_behind_8 : decode cX6_behind 8 = .ok (.ireturn, 1) := by decide +kernel
theorem dX6_behind_9 : decode cX6_behind 9 = .ok (.iload_n 2, 1) := by decide +kernel
theorem dX6_behind_10 : decode cX6_behind 10 = .ok (.iconst 0, 1) := by decide +kernel
theorem dX6_behind_11 : decode cX6_behind 11 = .ok (.iconst 1, 1) := by decide +kernel
theorem dX6_behind_12 : decode cX6_behind 12 = .ok (.invokestatic 44, 3) := by decide +kernel
theorem dX6_behind_15 : decode cX6_behind 15 = .ok (.ifCond .ne 6, 3) := by decide +kernel
theorem dX6_behind_18 : decode cX6_behind 18 = .ok (.bipush (-2), 2) := by decide +kernel
theorem dX6_behind_20 : decode cX6_behind 20 = .ok (.ireturn, 1) := by decide +kernel
theorem dX6_behind_21 : decode cX6_behind 21 = .ok (.aload_n 0, 1) := by decide +kernel
theorem dX6_behind_22 : decode cX6_behind 22 = .ok (.invokevirtual 98, 3) := by decide +kernel
theorem dX6_behind_25 : decode cX6_behind 25 = .ok (.ifCond .ne 6, 3) := by decide +kernel
theorem dX6_behind_28 : decode cX6_behind 28 = .ok (.bipush (-5), 2) := by decide +kernel
theorem dX6_behind_30 : decode cX6_behind 30 = .ok (.ireturn, 1) := by decide +kernel
theorem dX6_behind_31 : decode cX6_behind 31 = .ok (.iload_n 2, 1) := by decide +kernel
theorem dX6_behind_32 : decode cX6_behind 32 = .ok (.ifCond .ne 18, 3) := by decide +kernel
theorem dX6_behind_35 : decode cX6_behind 35 = .ok (.aload_n 0, 1) := by decide +kernel
theorem dX6_behind_36 : decode cX6_behind 36 = .ok (.getfield 33, 3) := by decide +kernel
theorem dX6_behind_39 : decode cX6_behind 39 = .ok (.getfield 102, 3) := by decide +kernel
theorem dX6_behind_42 : decode cX6_behind 42 = .ok (.getfield 112, 3) := by decide +kernel
theorem dX6_behind_45 : decode cX6_behind 45 = .ok (.iload_n 1, 1) := by decide +kernel
theorem dX6_behind_46 : decode cX6_behind 46 = .ok (.iaload, 1) := by decide +kernel
theorem dX6_behind_47 : decode cX6_behind 47 = .ok (.goto 15, 3) := by decide +kernel
theorem dX6_behind_50 : decode cX6_behind 50 = .ok (.aload_n 0, 1) := by decide +kernel
theorem dX6_behind_51 : decode cX6_behind 51 = .ok (.getfield 33, 3) := by decide +kernel
theorem dX6_behind_54 : decode cX6_behind 54 = .ok (.getfield 102, 3) := by decide +kernel
theorem dX6_behind_57 : decode cX6_behind 57 = .ok (.getfield 75, 3) := by decide +kernel
theorem dX6_behind_60 : decode cX6_behind 60 = .ok (.iload_n 1, 1) := by decide +kernel
theorem dX6_behind_61 : decode cX6_behind 61 = .ok (.iaload, 1) := by decide +kernel
theorem dX6_behind_62 : decode cX6_behind 62 = .ok (.ireturn, 1) := by decide +kernel
set_option maxRecDepth 20000 in
theorem ggX6_lies_X6_isIn : GoodIn wsX6_lies wsX6_isIn := goodIn_r _ [7] (by decide +kernel) (by decide +kernel)
set_option maxRecDepth 20000 in
theorem gX6_lies_X6_isIn : GoodIn wsX6_lies (va_wsS RX6 44 yX6_isIn wsX6_isIn) := goodIn_app (goodIn_of _ (by decide +kernel)) ggX6_lies_X6_isIn
set_option maxRecDepth 20000 in
theorem ggX6_lies_X6_canBeTold : GoodIn wsX6_lies wsX6_canBeTold := goodIn_r _ [11, 12, 1, 13, 14, 15, 16, 17, 18, 19, 20, 21, 22, 23, 24, 25, 26, 27, 28, 29, 5, 6, 7, 30, 31, 32, 33, 34, 35, 36, 37, 38, 39, 40, 41, 42, 43, 44, 45, 46, 47, 48, 49, 50, 51, 52, 53, 54, 55, 56, 57, 58, 59, 60, 61, 62, 63, 64, 65, 66, 67, 68, 69, 70, 71, 72, 73, 74, 75, 76, 77, 78, 79, 80, 81, 82, 83, 84, 85, 86, 87, 88, 89, 90, 91, 92, 93, 94, 95, 96, 97, 4, 98, 99, 100, 101, 102, 103, 104, 105, 106, 107, 108, 109, 110, 111, 112, 113, 114, 115, 116, 117, 118, 119, 120, 121, 122, 123, 124, 125, 126, 127, 128, 129, 130, 131, 132, 133, 134, 135, 136, 137, 138, 139, 140, 141, 142, 143, 144, 145, 146, 147, 148, 149, 150, 151, 160, 161, 152, 153, 154, 155, 156, 157, 158, 159, 162, 163, 164] (by decide +kernel) (by decide +kernel)
set_option maxRecDepth 20000 in
theorem gX6_lies_X6_canBeTold : GoodIn wsX6_lies (wsV RX6 98 RX6 yX6_canBeTold wsX6_canBeTold) := goodIn_app (goodIn_of _ (by decide +kernel)) ggX6_lies_X6_canBeTold
theorem dX6_lies_0 : decode cX6_lies 0 = .ok (.iload_n 1, 1) := by decide +kernel
theorem dX6_lies_1 : decode cX6_lies 1 = .ok (.iconst 0, 1) := by decide +kernel
theorem dX6_lies_2 : decode cX6_lies 2 = .ok (.bipush 29, 2) := by decide +kernel
theorem dX6_lies_4 : decode cX6_lies 4 = .ok (.invokestatic 44, 3) := by decide +kernel
theorem dX6_lies_7 : decode cX6_lies 7 = .ok (.ifCond .ne 6, 3) := by decide +kernel
theorem dX6_lies_10 : decode cX6_lies 10 = .ok (.bipush (-2), 2) := by decide +kernel
theorem dX6_lies_12 : decode cX6_lies 12 = .ok (.ireturn, 1) := by decide +kernel
theorem dX6_lies_13 : decode cX6_lies 13 = .ok (.aload_n 0, 1) := by decide +kernel
theorem dX6_lies_14 : decode cX6_lies 14 = .ok (.invokevirtual 98, 3) := by decide +kernel
theorem dX6_lies_17 : decode cX6_lies 17 = .ok (.ifCond .eq 18, 3) := by decide +kernel
theorem dX6_lies_20 : decode cX6_lies 20 = .ok (.aload_n 0, 1) := by decide +kernel
theorem dX6_lies_21 : decode cX6_lies 21 = .ok (.getfield 33, 3) := by decide +kernel
theorem dX6_lies_24 : decode cX6_lies 24 = .ok (.getfield 102, 3) := by decide +kernel
theorem dX6_lies_27 : decode cX6_lies 27 = .ok (.getfield 115, 3) := by decide +kernel
theorem dX6_lies_30 : decode cX6_lies 30 = .ok (.iload_n 1, 1) := by decide +kernel
theorem dX6_lies_31 : decode cX6_lies 31 = .ok (.iaload, 1) := by decide +kernel
theorem dX6_lies_32 : decode cX6_lies 32 = .ok (.goto 5, 3) := by decide +kernel
theorem dX6_lies_35 : decode cX6_lies 35 = .ok (.bipush (-5), 2) := by decide +kernel
theorem dX6_lies_37 : decode cX6_lies 37 = .ok (.ireturn, 1) := by decide +kernel
set_option maxRecDepth 20000 in
theorem ggX6_then_X6_isIn : GoodIn wsX6_then wsX6_isIn := goodIn_r _ [11] (by decide +kernel) (by decide +kernel)
set_option maxRecDepth 20000 in
theorem gX6_then_X6_isIn : GoodIn wsX6_then (va_wsS RX6 44 yX6_isIn wsX6_isIn) := goodIn_app (goodIn_of _ (by decide +kernel)) ggX6_then_X6_isIn
set_option maxRecDepth 20000 in
theorem ggX6_then_X6_canBeTold : GoodIn wsX6_then wsX6_canBeTold := goodIn_r _ [15, 16, 1, 17, 18, 19, 20, 21, 22, 23, 24, 25, 26, 27, 28, 29, 30, 31, 32, 33, 9, 10, 11, 34, 35, 36, 37, 38, 39, 40, 41, 42, 43, 44, 45, 46, 47, 48, 49, 50, 51, 52, 53, 54, 55, 56, 57, 58, 59, 60, 61, 62, 63, 64, 65, 66, 67, 68, 69, 70, 71, 72, 73, 74, 75, 76, 77, 78, 79, 80, 81, 82, 83, 84, 85, 86, 87, 88, 89, 90, 91, 92, 93, 94, 95, 96, 97, 98, 99, 100, 101, 8, 102, 103, 104, 105, 106, 107, 108, 109, 110, 111, 112, 113, 114, 115, 116, 117, 118, 119, 120, 121, 122, 123, 124, 125, 126, 127, 128, 129, 130, 131, 132, 133, 134, 135, 136, 137, 138, 139, 140, 141, 142, 143, 156, 157, 158, 159, 160, 161, 162, 163, 164, 165, 166, 167, 176, 177, 168, 169, 170, 171, 172, 173, 174, 175, 178, 179, 180] (by decide +kernel) (by decide +kernel)
set_option maxRecDepth 20000 in
theorem gX6_then_X6_canBeTold : GoodIn wsX6_then (wsV RX6 98 RX6 yX6_canBeTold wsX6_canBeTold) := goodIn_app (goodIn_of _ (by decide +kernel)) ggX6_then_X6_canBeTold
set_option maxRecDepth 20000 in
theorem ggX6_then_X5_dateByNewCount : GoodIn wsX6_then wsX5_dateByNewCount := goodIn_r _ [147, 58, 61, 168, 169, 170, 171, 172, 173, 174, 175] (by decide +kernel) (by decide +kernel)
set_option maxRecDepth 20000 in
theorem gX6_then_X5_dateByNewCount : GoodIn wsX6_then (wsV RX6 118 RX5 yX5_dateByNewCount wsX5_dateByNewCount) := goodIn_app (goodIn_of _ (by decide +kernel)) ggX6_then_X5_dateByNewCount
set_option maxRecDepth 20000 in
theorem ggX6_then_X5_whoIsWithin : GoodIn wsX6_then wsX5_whoIsWithin := goodIn_r _ [151, 63, 168, 169, 170, 171, 172, 173, 174, 175] (by decide +kernel) (by decide +kernel)
set_option maxRecDepth 20000 in
theorem gX6_then_X5_whoIsWithin : GoodIn wsX6_then (wsV RX6 48 RX5 yX5_whoIsWithin wsX5_whoIsWithin) := goodIn_app (goodIn_of _ (by decide +kernel)) ggX6_then_X5_whoIsWithin
set_option maxRecDepth 20000 in
theorem ggX6_then_X5_liesInAll : GoodIn wsX6_then wsX5_liesInAll := goodIn_r _ [155, 69, 168, 169, 170, 171, 172, 173, 174, 175] (by decide +kernel) (by decide +kernel)
set_option maxRecDepth 20000 in
theorem gX6_then_X5_liesInAll : GoodIn wsX6_then (wsV RX6 52 RX5 yX5_liesInAll wsX5_liesInAll) := goodIn_app (goodIn_of _ (by decide +kernel)) ggX6_then_X5_liesInAll
theorem dX6_then_0 : decode cX6_then 0 = .ok (.iload_n 1, 1) := by decide +kernel
theorem dX6_then_1 : decode cX6_then 1 = .ok (.iconst 0, 1) := by decide +kernel
theorem dX6_then_2 : decode cX6_then 2 = .ok (.bipush 7, 2) := by decide +kernel
theorem dX6_then_4 : decode cX6_then 4 = .ok (.invokestatic 44, 3) := by decide +kernel
theorem dX6_then_7 : decode cX6_then 7 = .ok (.ifCond .ne 6, 3) := by decide +kernel
theorem dX6_then_10 : decode cX6_then 10 = .ok (.bipush (-2), 2) := by decide +kernel
theorem dX6_then_12 : decode cX6_then 12 = .ok (.ireturn, 1) := by decide +kernel
theorem dX6_then_13 : decode cX6_then 13 = .ok (.aload_n 0, 1) := by decide +kernel
theorem dX6_then_14 : decode cX6_then 14 = .ok (.invokevirtual 98, 3) := by decide +kernel
theorem dX6_then_17 : decode cX6_then 17 = .ok (.ifCond .ne 6, 3) := by decide +kernel
theorem dX6_then_20 : decode cX6_then 20 = .ok (.bipush (-5), 2) := by decide +kernel
theorem dX6_then_22 : decode cX6_then 22 = .ok (.ireturn, 1) := by decide +kernel
theorem dX6_then_23 : decode cX6_then 23 = .ok (.iload_n 1, 1) := by decide +kernel
theorem dX6_then_24 : decode cX6_then 24 = .ok (.tableswitch 118 0 6 #[44, 55, 66, 77, 88, 99, 110], 44) := by decide +kernel
theorem dX6_then_68 : decode cX6_then 68 = .ok (.aload_n 0, 1) := by decide +kernel
theorem dX6_then_69 : decode cX6_then 69 = .ok (.getfield 33, 3) := by decide +kernel
theorem dX6_then_72 : decode cX6_then 72 = .ok (.getfield 102, 3) := by decide +kernel
theorem dX6_then_75 : decode cX6_then 75 = .ok (.getfield 62, 3) := by decide +kernel
theorem dX6_then_78 : decode cX6_then 78 = .ok (.ireturn, 1) := by decide +kernel
theorem dX6_then_79 : decode cX6_then 79 = .ok (.aload_n 0, 1) := by decide +kernel
theorem dX6_then_80 : decode cX6_then 80 = .ok (.getfield 33, 3) := by decide +kernel
theorem dX6_then_83 : decode cX6_then 83 = .ok (.getfield 102, 3) := by decide +kernel
theorem dX6_then_86 : decode cX6_then 86 = .ok (.invokevirtual 118, 3) := by decide +kernel
theorem dX6_then_89 : decode cX6_then 89 = .ok (.ireturn, 1) := by decide +kernel
theorem dX6_then_90 : decode cX6_then 90 = .ok (.aload_n 0, 1) := by decide +kernel
theorem dX6_then_91 : decode cX6_then 91 = .ok (.getfield 33, 3) := by decide +kernel
theorem dX6_then_94 : decode cX6_then 94 = .ok (.getfield 102, 3) := by decide +kernel
theorem dX6_then_97 : decode cX6_then 97 = .ok (.getfield 65, 3) := by decide +kernel
theorem dX6_then_100 : decode cX6_then 100 = .ok (.ireturn, 1) := by decide +kernel
theorem dX6_then_101 : decode cX6_then 101 = .ok (.aload_n 0, 1) := by decide +kernel
theorem dX6_then_102 : decode cX6_then 102 = .ok (.getfield 33, 3) := by decide +kernel
theorem dX6_then_105 : decode cX6_then 105 = .ok (.getfield 102, 3) := by decide +kernel
theorem dX6_then_108 : decode cX6_then 108 = .ok (.getfield 68, 3) := by decide +kernel
theorem dX6_then_111 : decode cX6_then 111 = .ok (.ireturn, 1) := by decide +kernel
theorem dX6_then_112 : decode cX6_then 112 = .ok (.aload_n 0, 1) := by decide +kernel
theorem dX6_then_113 : decode cX6_then 113 = .ok (.getfield 33, 3) := by decide +kernel
theorem dX6_then_116 : decode cX6_then 116 = .ok (.getfield 102, 3) := by decide +kernel
theorem dX6_then_119 : decode cX6_then 119 = .ok (.invokevirtual 48, 3) := by decide +kernel
theorem dX6_then_122 : decode cX6_then 122 = .ok (.ireturn, 1) := by decide +kernel
theorem dX6_then_123 : decode cX6_then 123 = .ok (.aload_n 0, 1) := by decide +kernel
theorem dX6_then_124 : decode cX6_then 124 = .ok (.getfield 33, 3) := by decide +kernel
theorem dX6_then_127 : decode cX6_then 127 = .ok (.getfield 102, 3) := by decide +kernel
theorem dX6_then_130 : decode cX6_then 130 = .ok (.invokevirtual 52, 3) := by decide +kernel
theorem dX6_then_133 : decode cX6_then 133 = .ok (.ireturn, 1) := by decide +kernel
theorem dX6_then_134 : decode cX6_then 134 = .ok (.aload_n 0, 1) := by decide +kernel
theorem dX6_then_135 : decode cX6_then 135 = .ok (.getfield 33, 3) := by decide +kernel
theorem dX6_then_138 : decode cX6_then 138 = .ok (.getfield 121, 3) := by decide +kernel
theorem dX6_then_141 : decode cX6_then 141 = .ok (.ireturn, 1) := by decide +kernel
theorem dX6_then_142 : decode cX6_then 142 = .ok (.aload_n 0, 1) := by decide +kernel
theorem dX6_then_143 : decode cX6_then 143 = .ok (.getfield 33, 3) := by decide +kernel
theorem dX6_then_146 : decode cX6_then 146 = .ok (.getfield 124, 3) := by decide +kernel
theorem dX6_then_149 : decode cX6_then 149 = .ok (.ireturn, 1) := by decide +kernel
set_option maxRecDepth 20000 in
theorem ggX6_canBeTold_X2_firstFault : GoodIn wsX6_canBeTold wsX2_firstFault := goodIn_r _ [9, 10, 11, 12, 13, 8, 14, 15, 16, 17, 18, 19, 20, 21, 22, 23, 24, 25, 26, 27, 28, 146, 147] (by decide +kernel) (by decide +kernel)
set_option maxRecDepth 20000 in
theorem gX6_canBeTold_X2_firstFault : GoodIn wsX6_canBeTold (wsV RX6 85 RX2 yX2_firstFault wsX2_firstFault) := goodIn_app (goodIn_of _ (by decide +kernel)) ggX6_canBeTold_X2_firstFault
set_option maxRecDepth 20000 in
theorem ggX6_canBeTold_X4_tell : GoodIn wsX6_canBeTold wsX4_tell := goodIn_r _ [33, 34, 35, 36, 37, 38, 39, 40, 41, 42, 43, 44, 45, 46, 47, 48, 49, 50, 51, 52, 53, 54, 55, 56, 57, 58, 59, 60, 61, 8, 62, 63, 64, 65, 11, 12, 13, 14, 10, 15, 16, 17, 18, 19, 20, 21, 22, 26, 27, 28, 66, 67, 68, 69, 70, 71, 72, 73, 74, 75, 76, 77, 78, 79, 80, 81, 82, 83, 84, 85, 86, 87, 88, 89, 90, 91, 92, 93, 94, 95, 96, 97, 98, 99, 100, 101, 102, 103, 104, 105, 106, 107, 108, 109, 110, 111, 112, 113, 114, 115, 116, 117, 118, 119, 120, 121, 122, 32, 123, 124, 125, 126, 127, 128, 129, 130, 131, 132, 133, 139, 140, 141, 142, 143, 144, 145, 146, 147, 148, 149, 150, 151, 152, 153, 154, 155, 156, 157, 158] (by decide +kernel) (by decide +kernel)
set_option maxRecDepth 20000 in
theorem gX6_canBeTold_X4_tell : GoodIn wsX6_canBeTold (wsV RX6 88 RX4 yX4_tell wsX4_tell) := goodIn_app (goodIn_of _ (by decide +kernel)) ggX6_canBeTold_X4_tell
theorem dX6_canBeTold_0 : decode cX6_canBeTold 0 = .ok (.aload_n 0, 1) := by decide +kernel
theorem dX6_canBeTold_1 : decode cX6_canBeTold 1 = .ok (.getfield 26, 3) := by decide +kernel
theorem dX6_canBeTold_4 : decode cX6_canBeTold 4 = .ok (.invokevirtual 85, 3) := by decide +kernel
theorem dX6_canBeTold_7 : decode cX6_canBeTold 7 = .ok (.bipush (-6), 2) := by decide +kernel
theorem dX6_canBeTold_9 : decode cX6_canBeTold 9 = .ok (.if_icmp .eq 5, 3) := by decide +kernel
theorem dX6_canBeTold_12 : decode cX6_canBeTold 12 = .ok (.iconst 0, 1) := by decide +kernel
theorem dX6_canBeTold_13 : decode cX6_canBeTold 13 = .ok (.ireturn, 1) := by decide +kernel
theorem dX6_canBeTold_14 : decode cX6_canBeTold 14 = .ok (.aload_n 0, 1) := by decide +kernel
theorem dX6_canBeTold_15 : decode cX6_canBeTold 15 = .ok (.getfield 33, 3) := by decide +kernel
theorem dX6_canBeTold_18 : decode cX6_canBeTold 18 = .ok (.aload_n 0, 1) := by decide +kernel
theorem dX6_canBeTold_19 : decode cX6_canBeTold 19 = .ok (.getfield 10, 3) := by decide +kernel
theorem dX6_canBeTold_22 : decode cX6_canBeTold 22 = .ok (.aload_n 0, 1) := by decide +kernel
theorem dX6_canBeTold_23 : decode cX6_canBeTold 23 = .ok (.getfield 26, 3) := by decide +kernel
theorem dX6_canBeTold_26 : decode cX6_canBeTold 26 = .ok (.invokevirtual 88, 3) := by decide +kernel
theorem dX6_canBeTold_29 : decode cX6_canBeTold 29 = .ok (.aload_n 0, 1) := by decide +kernel
theorem dX6_canBeTold_30 : decode cX6_canBeTold 30 = .ok (.getfield 33, 3) := by decide +kernel
theorem dX6_canBeTold_33 : decode cX6_canBeTold 33 = .ok (.getfield 92, 3) := by decide +kernel
theorem dX6_canBeTold_36 : decode cX6_canBeTold 36 = .ok (.bipush (-6), 2) := by decide +kernel
theorem dX6_canBeTold_38 : decode cX6_canBeTold 38 = .ok (.if_icmp .ne 7, 3) := by decide +kernel
theorem dX6_canBeTold_41 : decode cX6_canBeTold 41 = .ok (.iconst 1, 1) := by decide +kernel
theorem dX6_canBeTold_42 : decode cX6_canBeTold 42 = .ok (.goto 4, 3) := by decide +kernel
theorem dX6_canBeTold_45 : decode cX6_canBeTold 45 = .ok (.iconst 0, 1) := by decide +kernel
theorem dX6_canBeTold_46 : decode cX6_canBeTold 46 = .ok (.ireturn, 1) := by decide +kernel
set_option maxRecDepth 20000 in
theorem ggX6_agree_X6_isIn : GoodIn wsX6_agree wsX6_isIn := goodIn_r _ [4] (by decide +kernel) (by decide +kernel)
set_option maxRecDepth 20000 in
theorem gX6_agree_X6_isIn : GoodIn wsX6_agree (va_wsS RX6 44 yX6_isIn wsX6_isIn) := goodIn_app (goodIn_of _ (by decide +kernel)) ggX6_agree_X6_isIn
theorem dX6_agree_0 : decode cX6_agree 0 = .ok (.iload_n 1, 1) := by decide +kernel
theorem dX6_agree_1 : decode cX6_agree 1 = .ok (.iconst 1, 1) := by decide +kernel
theorem dX6_agree_2 : decode cX6_agree 2 = .ok (.sipush 999, 3) := by decide +kernel
theorem dX6_agree_5 : decode cX6_agree 5 = .ok (.invokestatic 44, 3) := by decide +kernel
theorem dX6_agree_8 : decode cX6_agree 8 = .ok (.ifCond .eq 37, 3) := by decide +kernel
theorem dX6_agree_11 : decode cX6_agree 11 = .ok (.iload_n 2, 1) := by decide +kernel
theorem dX6_agree_12 : decode cX6_agree 12 = .ok (.iconst 0, 1) := by decide +kernel
theorem dX6_agree_13 : decode cX6_agree 13 = .ok (.iload_n 1, 1) := by decide +kernel
theorem dX6_agree_14 : decode cX6_agree 14 = .ok (.iconst 1, 1) := by decide +kernel
theorem dX6_agree_15 : decode cX6_agree 15 = .ok (.isub, 1) := by decide +kernel
theorem dX6_agree_16 : decode cX6_agree 16 = .ok (.invokestatic 44, 3) := by decide +kernel
theorem dX6_agree_19 : decode cX6_agree 19 = .ok (.ifCond .eq 26, 3) := by decide +kernel
theorem dX6_agree_22 : decode cX6_agree 22 = .ok (.iload_n 3, 1) := by decide +kernel
theorem dX6_agree_23 : decode cX6_agree 23 = .ok (.iconst 1, 1) := by decide +kernel
theorem dX6_agree_24 : decode cX6_agree 24 = .ok (.sipush 999, 3) := by decide +kernel
theorem dX6_agree_27 : decode cX6_agree 27 = .ok (.invokestatic 44, 3) := by decide +kernel
theorem dX6_agree_30 : decode cX6_agree 30 = .ok (.ifCond .eq 15, 3) := by decide +kernel
theorem dX6_agree_33 : decode cX6_agree 33 = .ok (.iload 4, 2) := by decide +kernel
theorem dX6_agree_35 : decode cX6_agree 35 = .ok (.iconst 0, 1) := by decide +kernel
theorem dX6_agree_36 : decode cX6_agree 36 = .ok (.iload_n 3, 1) := by decide +kernel
theorem dX6_agree_37 : decode cX6_agree 37 = .ok (.iconst 1, 1) := by decide +kernel
theorem dX6_agree_38 : decode cX6_agree 38 = .ok (.isub, 1) := by decide +kernel
theorem dX6_agree_39 : decode cX6_agree 39 = .ok (.invokestatic 44, 3) := by decide +kernel
theorem dX6_agree_42 : decode cX6_agree 42 = .ok (.ifCond .ne 6, 3) := by decide +kernel
theorem dX6_agree_45 : decode cX6_agree 45 = .ok (.bipush (-2), 2) := by decide +kernel
theorem dX6_agree_47 : decode cX6_agree 47 = .ok (.ireturn, 1) := by decide +kernel
theorem dX6_agree_48 : decode cX6_agree 48 = .ok (.iload_n 2, 1) := by decide +kernel
theorem dX6_agree_49 : decode cX6_agree 49 = .ok (.istore 5, 2) := by decide +kernel
theorem dX6_agree_51 : decode cX6_agree 51 = .ok (.iload 5, 2) := by decide +kernel
theorem dX6_agree_53 : decode cX6_agree 53 = .ok (.iload_n 1, 1) := by decide +kernel
theorem dX6_agree_54 : decode cX6_agree 54 = .ok (.iload_n 3, 1) := by decide +kernel
theorem dX6_agree_55 : decode cX6_agree 55 = .ok (.imul, 1) := by decide +kernel
theorem dX6_agree_56 : decode cX6_agree 56 = .ok (.if_icmp .ge 24, 3) := by decide +kernel
theorem dX6_agree_59 : decode cX6_agree 59 = .ok (.iload 5, 2) := by decide +kernel
theorem dX6_agree_61 : decode cX6_agree 61 = .ok (.iload_n 3, 1) := by decide +kernel
theorem dX6_agree_62 : decode cX6_agree 62 = .ok (.irem, 1) := by decide +kernel
theorem dX6_agree_63 : decode cX6_agree 63 = .ok (.iload 4, 2) := by decide +kernel
theorem dX6_agree_65 : decode cX6_agree 65 = .ok (.if_icmp .ne 6, 3) := by decide +kernel
theorem dX6_agree_68 : decode cX6_agree 68 = .ok (.iload 5, 2) := by decide +kernel
theorem dX6_agree_70 : decode cX6_agree 70 = .ok (.ireturn, 1) := by decide +kernel
theorem dX6_agree_71 : decode cX6_agree 71 = .ok (.iload 5, 2) := by decide +kernel
theorem dX6_agree_73 : decode cX6_agree 73 = .ok (.iload_n 1, 1) := by decide +kernel
theorem dX6_agree_74 : decode cX6_agree 74 = .ok (.iadd, 1) := by decide +kernel
theorem dX6_agree_75 : decode cX6_agree 75 = .ok (.istore 5, 2) := by decide +kernel
theorem dX6_agree_77 : decode cX6_agree 77 = .ok (.goto (-26), 3) := by decide +kernel
theorem dX6_agree_80 : decode cX6_agree 80 = .ok (.bipush (-6), 2) := by decide +kernel
theorem dX6_agree_82 : decode cX6_agree 82 = .ok (.ireturn, 1) := by decide +kernel
set_option maxRecDepth 20000 in
theorem ggX6_style_X6_isOldDay : GoodIn wsX6_style wsX6_isOldDay := goodIn_r _ [4, 5, 6, 3, 7, 8, 9, 10, 11, 12, 13, 14] (by decide +kernel) (by decide +kernel)
set_option maxRecDepth 20000 in
theorem gX6_style_X6_isOldDay : GoodIn wsX6_style (va_wsS RX6 127 yX6_isOldDay wsX6_isOldDay) := goodIn_app (goodIn_of _ (by decide +kernel)) ggX6_style_X6_isOldDay
set_option maxRecDepth 20000 in
theorem ggX6_style_X6_isIn : GoodIn wsX6_style wsX6_isIn := goodIn_r _ [7] (by decide +kernel) (by decide +kernel)
set_option maxRecDepth 20000 in
theorem gX6_style_X6_isIn : GoodIn wsX6_style (va_wsS RX6 44 yX6_isIn wsX6_isIn) := goodIn_app (goodIn_of _ (by decide +kernel)) ggX6_style_X6_isIn
set_option maxRecDepth 20000 in
theorem ggX6_style_X6_oldDayNumber : GoodIn wsX6_style wsX6_oldDayNumber := goodIn_r _ [17, 8, 9, 3, 10, 11, 12, 13, 14, 5, 6, 7] (by decide +kernel) (by decide +kernel)
set_option maxRecDepth 20000 in
theorem gX6_style_X6_oldDayNumber : GoodIn wsX6_style (va_wsS RX6 130 yX6_oldDayNumber wsX6_oldDayNumber) := goodIn_app (goodIn_of _ (by decide +kernel)) ggX6_style_X6_oldDayNumber
set_option maxRecDepth 20000 in
theorem ggX6_style_X6_newDaysAhead : GoodIn wsX6_style wsX6_newDaysAhead := goodIn_r _ [20] (by decide +kernel) (by decide +kernel)
set_option maxRecDepth 20000 in
theorem gX6_style_X6_newDaysAhead : GoodIn wsX6_style (va_wsS RX6 134 yX6_newDaysAhead wsX6_newDaysAhead) := goodIn_app (goodIn_of _ (by decide +kernel)) ggX6_style_X6_newDaysAhead
set_option maxRecDepth 20000 in
theorem ggX6_style_X6_newStyleDay : GoodIn wsX6_style wsX6_newStyleDay := goodIn_r _ [23, 24, 25, 3, 26, 11, 12, 13, 14, 5, 6, 7] (by decide +kernel) (by decide +kernel)
set_option maxRecDepth 20000 in
theorem gX6_style_X6_newStyleDay : GoodIn wsX6_style (va_wsS RX6 138 yX6_newStyleDay wsX6_newStyleDay) := goodIn_app (goodIn_of _ (by decide +kernel)) ggX6_style_X6_newStyleDay
theorem dX6_style_0 : decode cX6_style 0 = .ok (.iload_n 1, 1) := by decide +kernel
theorem dX6_style_1 : decode cX6_style 1 = .ok (.iload_n 2, 1) := by decide +kernel
theorem dX6_style_2 : decode cX6_style 2 = .ok (.iload_n 3, 1) := by decide +kernel
theorem dX6_style_3 : decode cX6_style 3 = .ok (.invokestatic 127, 3) := by decide +kernel
theorem dX6_style_6 : decode cX6_style 6 = .ok (.ifCond .eq 13, 3) := by decide +kernel
theorem dX6_style_9 : decode cX6_style 9 = .ok (.iload 4, 2) := by decide +kernel
theorem dX6_style_11 : decode cX6_style 11 = .ok (.iconst 0, 1) := by decide +kernel
theorem dX6_style_12 : decode cX6_style 12 = .ok (.iconst 2, 1) := by decide +kernel
theorem dX6_style_13 : decode cX6_style 13 = .ok (.invokestatic 44, 3) := by decide +kernel
theorem dX6_style_16 : decode cX6_style 16 = .ok (.ifCond .ne 6, 3) := by decide +kernel
theorem dX6_style_19 : decode cX6_style 19 = .ok (.bipush (-2), 2) := by decide +kernel
theorem dX6_style_21 : decode cX6_style 21 = .ok (.ireturn, 1) := by decide +kernel
theorem dX6_style_22 : decode cX6_style 22 = .ok (.iload_n 1, 1) := by decide +kernel
theorem dX6_style_23 : decode cX6_style 23 = .ok (.iload_n 2, 1) := by decide +kernel
theorem dX6_style_24 : decode cX6_style 24 = .ok (.iload_n 3, 1) := by decide +kernel
theorem dX6_style_25 : decode cX6_style 25 = .ok (.invokestatic 130, 3) := by decide +kernel
theorem dX6_style_28 : decode cX6_style 28 = .ok (.istore 5, 2) := by decide +kernel
theorem dX6_style_30 : decode cX6_style 30 = .ok (.iload 4, 2) := by decide +kernel
theorem dX6_style_32 : decode cX6_style 32 = .ok (.iconst 1, 1) := by decide +kernel
theorem dX6_style_33 : decode cX6_style 33 = .ok (.if_icmp .ne 11, 3) := by decide +kernel
theorem dX6_style_36 : decode cX6_style 36 = .ok (.iload 5, 2) := by decide +kernel
theorem dX6_style_38 : decode cX6_style 38 = .ok (.iconst 1, 1) := by decide +kernel
theorem dX6_style_39 : decode cX6_style 39 = .ok (.isub, 1) := by decide +kernel
theorem dX6_style_40 : decode cX6_style 40 = .ok (.bipush 7, 2) := by decide +kernel
theorem dX6_style_42 : decode cX6_style 42 = .ok (.irem, 1) := by decide +kernel
theorem dX6_style_43 : decode cX6_style 43 = .ok (.ireturn, 1) := by decide +kernel
theorem dX6_style_44 : decode cX6_style 44 = .ok (.iload 5, 2) := by decide +kernel
theorem dX6_style_46 : decode cX6_style 46 = .ok (.iload_n 1, 1) := by decide +kernel
theorem dX6_style_47 : decode cX6_style 47 = .ok (.iconst 1, 1) := by decide +kernel
theorem dX6_style_48 : decode cX6_style 48 = .ok (.iadd, 1) := by decide +kernel
theorem dX6_style_49 : decode cX6_style 49 = .ok (.invokestatic 134, 3) := by decide +kernel
theorem dX6_style_52 : decode cX6_style 52 = .ok (.if_icmp .le 9, 3) := by decide +kernel
theorem dX6_style_55 : decode cX6_style 55 = .ok (.iload_n 1, 1) := by decide +kernel
theorem dX6_style_56 : decode cX6_style 56 = .ok (.iconst 1, 1) := by decide +kernel
theorem dX6_style_57 : decode cX6_style 57 = .ok (.iadd, 1) := by decide +kernel
theorem dX6_style_58 : decode cX6_style 58 = .ok (.goto 4, 3) := by decide +kernel
theorem dX6_style_61 : decode cX6_style 61 = .ok (.iload_n 1, 1) := by decide +kernel
theorem dX6_style_62 : decode cX6_style 62 = .ok (.istore 6, 2) := by decide +kernel
theorem dX6_style_64 : decode cX6_style 64 = .ok (.iload 5, 2) := by decide +kernel
theorem dX6_style_66 : decode cX6_style 66 = .ok (.iload 6, 2) := by decide +kernel
theorem dX6_style_68 : decode cX6_style 68 = .ok (.invokestatic 134, 3) := by decide +kernel
theorem dX6_style_71 : decode cX6_style 71 = .ok (.isub, 1) := by decide +kernel
theorem dX6_style_72 : decode cX6_style 72 = .ok (.istore 7, 2) := by decide +kernel
theorem dX6_style_74 : decode cX6_style 74 = .ok (.iload 4, 2) := by decide +kernel
theorem dX6_style_76 : decode cX6_style 76 = .ok (.ifCond .ne 13, 3) := by decide +kernel
theorem dX6_style_79 : decode cX6_style 79 = .ok (.iload 6, 2) := by decide +kernel
theorem dX6_style_81 : decode cX6_style 81 = .ok (.iload 7, 2) := by decide +kernel
theorem dX6_style_83 : decode cX6_style 83 = .ok (.invokestatic 138, 3) := by decide +kernel
theorem dX6_style_86 : decode cX6_style 86 = .ok (.goto 5, 3) := by decide +kernel
theorem dX6_style_89 : decode cX6_style 89 = .ok (.iload 7, 2) := by decide +kernel
theorem dX6_style_91 : decode cX6_style 91 = .ok (.ireturn, 1) := by decide +kernel
set_option maxRecDepth 20000 in
theorem ggX6_isOldDay_X6_isIn : GoodIn wsX6_isOldDay wsX6_isIn := goodIn_r _ [4] (by decide +kernel) (by decide +kernel)
set_option maxRecDepth 20000 in
theorem gX6_isOldDay_X6_isIn : GoodIn wsX6_isOldDay (va_wsS RX6 44 yX6_isIn wsX6_isIn) := goodIn_app (goodIn_of _ (by decide +kernel)) ggX6_isOldDay_X6_isIn
set_option maxRecDepth 20000 in
theorem ggX6_isOldDay_X6_isOldLeap : GoodIn wsX6_isOldDay wsX6_isOldLeap := goodIn_r _ [7] (by decide +kernel) (by decide +kernel)
set_option maxRecDepth 20000 in
theorem gX6_isOldDay_X6_isOldLeap : GoodIn wsX6_isOldDay (va_wsS RX6 142 yX6_isOldLeap wsX6_isOldLeap) := goodIn_app (goodIn_of _ (by decide +kernel)) ggX6_isOldDay_X6_isOldLeap
set_option maxRecDepth 20000 in
theorem ggX6_isOldDay_X6_monthDays : GoodIn wsX6_isOldDay wsX6_monthDays := goodIn_r _ [10, 11, 1, 2, 3, 4] (by decide +kernel) (by decide +kernel)
set_option maxRecDepth 20000 in
theorem gX6_isOldDay_X6_monthDays : GoodIn wsX6_isOldDay (va_wsS RX6 145 yX6_monthDays wsX6_monthDays) := goodIn_app (goodIn_of _ (by decide +kernel)) ggX6_isOldDay_X6_monthDays
theorem dX6_isOldDay_0 : decode cX6_isOldDay 0 = .ok (.iload_n 0, 1) := by decide +kernel
theorem dX6_isOldDay_1 : decode cX6_isOldDay 1 = .ok (.sipush 1000, 3) := by decide +kernel
theorem dX6_isOldDay_4 : decode cX6_isOldDay 4 = .ok (.sipush 3000, 3) := by decide +kernel
theorem dX6_isOldDay_7 : decode cX6_isOldDay 7 = .ok (.invokestatic 44, 3) := by decide +kernel
theorem dX6_isOldDay_10 : decode cX6_isOldDay 10 = .ok (.ifCond .eq 33, 3) := by decide +kernel
theorem dX6_isOldDay_13 : decode cX6_isOldDay 13 = .ok (.iload_n 1, 1) := by decide +kernel
theorem dX6_isOldDay_14 : decode cX6_isOldDay 14 = .ok (.iconst 1, 1) := by decide +kernel
theorem dX6_isOldDay_15 : decode cX6_isOldDay 15 = .ok (.bipush 12, 2) := by decide +kernel
theorem dX6_isOldDay_17 : decode cX6_isOldDay 17 = .ok (.invokestatic 44, 3) := by decide +kernel
theorem dX6_isOldDay_20 : decode cX6_isOldDay 20 = .ok (.ifCond .eq 23, 3) := by decide +kernel
theorem dX6_isOldDay_23 : decode cX6_isOldDay 23 = .ok (.iload_n 2, 1) := by decide +kernel
theorem dX6_isOldDay_24 : decode cX6_isOldDay 24 = .ok (.iconst 1, 1) := by decide +kernel
theorem dX6_isOldDay_25 : decode cX6_isOldDay 25 = .ok (.iload_n 1, 1) := by decide +kernel
theorem dX6_isOldDay_26 : decode cX6_isOldDay 26 = .ok (.iload_n 0, 1) := by decide +kernel
theorem dX6_isOldDay_27 : decode cX6_isOldDay 27 = .ok (.invokestatic 142, 3) := by decide +kernel
theorem dX6_isOldDay_30 : decode cX6_isOldDay 30 = .ok (.invokestatic 145, 3) := by decide +kernel
theorem dX6_isOldDay_33 : decode cX6_isOldDay 33 = .ok (.invokestatic 44, 3) := by decide +kernel
theorem dX6_isOldDay_36 : decode cX6_isOldDay 36 = .ok (.ifCond .eq 7, 3) := by decide +kernel
theorem dX6_isOldDay_39 : decode cX6_isOldDay 39 = .ok (.iconst 1, 1) := by decide +kernel
theorem dX6_isOldDay_40 : decode cX6_isOldDay 40 = .ok (.goto 4, 3) := by decide +kernel
theorem dX6_isOldDay_43 : decode cX6_isOldDay 43 = .ok (.iconst 0, 1) := by decide +kernel
theorem dX6_isOldDay_44 : decode cX6_isOldDay 44 = .ok (.ireturn, 1) := by decide +kernel
theorem dX6_isOldLeap_0 : decode cX6_isOldLeap 0 = .ok (.iload_n 0, 1) := by decide +kernel
theorem dX6_isOldLeap_1 : decode cX6_isOldLeap 1 = .ok (.iconst 4, 1) := by decide +kernel
theorem dX6_isOldLeap_2 : decode cX6_isOldLeap 2 = .ok (.irem, 1) := by decide +kernel
theorem dX6_isOldLeap_3 : decode cX6_isOldLeap 3 = .ok (.ifCond .ne 7, 3) := by decide +kernel
theorem dX6_isOldLeap_6 : decode cX6_isOldLeap 6 = .ok (.iconst 1, 1) := by decide +kernel
theorem dX6_isOldLeap_7 : decode cX6_isOldLeap 7 = .ok (.goto 4, 3) := by decide +kernel
theorem dX6_isOldLeap_10 : decode cX6_isOldLeap 10 = .ok (.iconst 0, 1) := by decide +kernel
theorem dX6_isOldLeap_11 : decode cX6_isOldLeap 11 = .ok (.ireturn, 1) := by decide +kernel
theorem dX6_isNewLeap_0 : decode cX6_isNewLeap 0 = .ok (.iload_n 0, 1) := by decide +kernel
theorem dX6_isNewLeap_1 : decode cX6_isNewLeap 1 = .ok (.iconst 4, 1) := by decide +kernel
theorem dX6_isNewLeap_2 : decode cX6_isNewLeap 2 = .ok (.irem, 1) := by decide +kernel
theorem dX6_isNewLeap_3 : decode cX6_isNewLeap 3 = .ok (.ifCond .ne 22, 3) := by decide +kernel
theorem dX6_isNewLeap_6 : decode cX6_isNewLeap 6 = .ok (.iload_n 0, 1) := by decide +kernel
theorem dX6_isNewLeap_7 : decode cX6_isNewLeap 7 = .ok (.bipush 100, 2) := by decide +kernel
theorem dX6_isNewLeap_9 : decode cX6_isNewLeap 9 = .ok (.irem, 1) := by decide +kernel
