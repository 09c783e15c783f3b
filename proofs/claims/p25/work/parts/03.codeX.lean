theorem dX0_init_0 : decode cX0_init 0 = .ok (.aload_n 0, 1) := by decide +kernel
theorem dX0_init_1 : decode cX0_init 1 = .ok (.invokespecial 1, 3) := by decide +kernel
theorem dX0_init_4 : decode cX0_init 4 = .ok (.aload_n 0, 1) := by decide +kernel
theorem dX0_init_5 : decode cX0_init 5 = .ok (.lconst 1, 1) := by decide +kernel
theorem dX0_init_6 : decode cX0_init 6 = .ok (.putfield 7, 3) := by decide +kernel
theorem dX0_init_9 : decode cX0_init 9 = .ok (.return_, 1) := by decide +kernel
theorem dX0_start_0 : decode cX0_start 0 = .ok (.aload_n 0, 1) := by decide +kernel
theorem dX0_start_1 : decode cX0_start 1 = .ok (.iload_n 1, 1) := by decide +kernel
theorem dX0_start_2 : decode cX0_start 2 = .ok (.i2l, 1) := by decide +kernel
theorem dX0_start_3 : decode cX0_start 3 = .ok (.putfield 7, 3) := by decide +kernel
theorem dX0_start_6 : decode cX0_start 6 = .ok (.return_, 1) := by decide +kernel
theorem dX0_below_0 : decode cX0_below 0 = .ok (.aload_n 0, 1) := by decide +kernel
theorem dX0_below_1 : decode cX0_below 1 = .ok (.aload_n 0, 1) := by decide +kernel
theorem dX0_below_2 : decode cX0_below 2 = .ok (.getfield 7, 3) := by decide +kernel
theorem dX0_below_5 : decode cX0_below 5 = .ok (.ldc2_w 13, 3) := by decide +kernel
theorem dX0_below_8 : decode cX0_below 8 = .ok (.lmul, 1) := by decide +kernel
theorem dX0_below_9 : decode cX0_below 9 = .ok (.ldc2_w 15, 3) := by decide +kernel
theorem dX0_below_12 : decode cX0_below 12 = .ok (.lrem, 1) := by decide +kernel
theorem dX0_below_13 : decode cX0_below 13 = .ok (.putfield 7, 3) := by decide +kernel
theorem dX0_below_16 : decode cX0_below 16 = .ok (.iload_n 1, 1) := by decide +kernel
theorem dX0_below_17 : decode cX0_below 17 = .ok (.ifCond .le 14, 3) := by decide +kernel
theorem dX0_below_20 : decode cX0_below 20 = .ok (.aload_n 0, 1) := by decide +kernel
theorem dX0_below_21 : decode cX0_below 21 = .ok (.getfield 7, 3) := by decide +kernel
theorem dX0_below_24 : decode cX0_below 24 = .ok (.iload_n 1, 1) := by decide +kernel
theorem dX0_below_25 : decode cX0_below 25 = .ok (.i2l, 1) := by decide +kernel
theorem dX0_below_26 : decode cX0_below 26 = .ok (.lrem, 1) := by decide +kernel
theorem dX0_below_27 : decode cX0_below 27 = .ok (.l2i, 1) := by decide +kernel
theorem dX0_below_28 : decode cX0_below 28 = .ok (.goto 4, 3) := by decide +kernel
theorem dX0_below_31 : decode cX0_below 31 = .ok (.iconst 0, 1) := by decide +kernel
theorem dX0_below_32 : decode cX0_below 32 = .ok (.ireturn, 1) := by decide +kernel
set_option maxRecDepth 20000 in
theorem ggX1_init_X3_init : GoodIn wsX1_init wsX3_init := goodIn_r _ [21, 22, 2, 3, 23, 4, 24, 25, 26, 27, 28, 29, 30, 31, 42, 43, 44, 45, 46, 47, 48, 49, 50] rfl (by decide +kernel)
set_option maxRecDepth 20000 in
theorem gX1_init_X3_init : GoodIn wsX1_init (wsX3_init) := ggX1_init_X3_init
theorem dX1_init_0 : decode cX1_init 0 = .ok (.aload_n 0, 1) := by decide +kernel
theorem dX1_init_1 : decode cX1_init 1 = .ok (.invokespecial 3, 3) := by decide +kernel
theorem dX1_init_4 : decode cX1_init 4 = .ok (.aload_n 0, 1) := by decide +kernel
theorem dX1_init_5 : decode cX1_init 5 = .ok (.sipush 240, 3) := by decide +kernel
theorem dX1_init_8 : decode cX1_init 8 = .ok (.newarray .int, 2) := by decide +kernel
theorem dX1_init_10 : decode cX1_init 10 = .ok (.putfield 9, 3) := by decide +kernel
theorem dX1_init_13 : decode cX1_init 13 = .ok (.aload_n 0, 1) := by decide +kernel
theorem dX1_init_14 : decode cX1_init 14 = .ok (.iconst 0, 1) := by decide +kernel
theorem dX1_init_15 : decode cX1_init 15 = .ok (.putfield 15, 3) := by decide +kernel
theorem dX1_init_18 : decode cX1_init 18 = .ok (.aload_n 0, 1) := by decide +kernel
theorem dX1_init_19 : decode cX1_init 19 = .ok (.iconst 0, 1) := by decide +kernel
theorem dX1_init_20 : decode cX1_init 20 = .ok (.putfield 19, 3) := by decide +kernel
theorem dX1_init_23 : decode cX1_init 23 = .ok (.aload_n 0, 1) := by decide +kernel
theorem dX1_init_24 : decode cX1_init 24 = .ok (.iconst 0, 1) := by decide +kernel
theorem dX1_init_25 : decode cX1_init 25 = .ok (.putfield 22, 3) := by decide +kernel
theorem dX1_init_28 : decode cX1_init 28 = .ok (.aload_n 0, 1) := by decide +kernel
theorem dX1_init_29 : decode cX1_init 29 = .ok (.iconst 0, 1) := by decide +kernel
theorem dX1_init_30 : decode cX1_init 30 = .ok (.putfield 25, 3) := by decide +kernel
theorem dX1_init_33 : decode cX1_init 33 = .ok (.aload_n 0, 1) := by decide +kernel
theorem dX1_init_34 : decode cX1_init 34 = .ok (.iconst (-1), 1) := by decide +kernel
theorem dX1_init_35 : decode cX1_init 35 = .ok (.putfield 28, 3) := by decide +kernel
theorem dX1_init_38 : decode cX1_init 38 = .ok (.aload_n 0, 1) := by decide +kernel
theorem dX1_init_39 : decode cX1_init 39 = .ok (.bipush 48, 2) := by decide +kernel
theorem dX1_init_41 : decode cX1_init 41 = .ok (.newarray .boolean, 2) := by decide +kernel
theorem dX1_init_43 : decode cX1_init 43 = .ok (.putfield 31, 3) := by decide +kernel
theorem dX1_init_46 : decode cX1_init 46 = .ok (.aload_n 0, 1) := by decide +kernel
theorem dX1_init_47 : decode cX1_init 47 = .ok (.bipush 48, 2) := by decide +kernel
theorem dX1_init_49 : decode cX1_init 49 = .ok (.newarray .int, 2) := by decide +kernel
theorem dX1_init_51 : decode cX1_init 51 = .ok (.putfield 35, 3) := by decide +kernel
theorem dX1_init_54 : decode cX1_init 54 = .ok (.aload_n 0, 1) := by decide +kernel
theorem dX1_init_55 : decode cX1_init 55 = .ok (.iconst 0, 1) := by decide +kernel
theorem dX1_init_56 : decode cX1_init 56 = .ok (.putfield 38, 3) := by decide +kernel
theorem dX1_init_59 : decode cX1_init 59 = .ok (.aload_n 0, 1) := by decide +kernel
theorem dX1_init_60 : decode cX1_init 60 = .ok (.new 41, 3) := by decide +kernel
theorem dX1_init_63 : decode cX1_init 63 = .ok (.dup, 1) := by decide +kernel
theorem dX1_init_64 : decode cX1_init 64 = .ok (.invokespecial 43, 3) := by decide +kernel
theorem dX1_init_67 : decode cX1_init 67 = .ok (.putfield 44, 3) := by decide +kernel
theorem dX1_init_70 : decode cX1_init 70 = .ok (.return_, 1) := by decide +kernel
theorem dX1_addLetter_0 : decode cX1_addLetter 0 = .ok (.aload_n 0, 1) := by decide +kernel
theorem dX1_addLetter_1 : decode cX1_addLetter 1 = .ok (.getfield 15, 3) := by decide +kernel
theorem dX1_addLetter_4 : decode cX1_addLetter 4 = .ok (.sipush 240, 3) := by decide +kernel
theorem dX1_addLetter_7 : decode cX1_addLetter 7 = .ok (.if_icmp .lt 5, 3) := by decide +kernel
theorem dX1_addLetter_10 : decode cX1_addLetter 10 = .ok (.iconst 0, 1) := by decide +kernel
theorem dX1_addLetter_11 : decode cX1_addLetter 11 = .ok (.ireturn, 1) := by decide +kernel
theorem dX1_addLetter_12 : decode cX1_addLetter 12 = .ok (.aload_n 0, 1) := by decide +kernel
theorem dX1_addLetter_13 : decode cX1_addLetter 13 = .ok (.getfield 9, 3) := by decide +kernel
theorem dX1_addLetter_16 : decode cX1_addLetter 16 = .ok (.aload_n 0, 1) := by decide +kernel
theorem dX1_addLetter_17 : decode cX1_addLetter 17 = .ok (.getfield 15, 3) := by decide +kernel
theorem dX1_addLetter_20 : decode cX1_addLetter 20 = .ok (.iload_n 1, 1) := by decide +kernel
theorem dX1_addLetter_21 : decode cX1_addLetter 21 = .ok (.iastore, 1) := by decide +kernel
theorem dX1_addLetter_22 : decode cX1_addLetter 22 = .ok (.aload_n 0, 1) := by decide +kernel
theorem dX1_addLetter_23 : decode cX1_addLetter 23 = .ok (.dup, 1) := by decide +kernel
theorem dX1_addLetter_24 : decode cX1_addLetter 24 = .ok (.getfield 15, 3) := by decide +kernel
theorem dX1_addLetter_27 : decode cX1_addLetter 27 = .ok (.iconst 1, 1) := by decide +kernel
theorem dX1_addLetter_28 : decode cX1_addLetter 28 = .ok (.iadd, 1) := by decide +kernel
theorem dX1_addLetter_29 : decode cX1_addLetter 29 = .ok (.putfield 15, 3) := by decide +kernel
theorem dX1_addLetter_32 : decode cX1_addLetter 32 = .ok (.iconst 1, 1) := by decide +kernel
theorem dX1_addLetter_33 : decode cX1_addLetter 33 = .ok (.ireturn, 1) := by decide +kernel
set_option maxRecDepth 20000 in
theorem ggX1_readAll_X3_makeEmpty : GoodIn wsX1_readAll wsX3_makeEmpty := goodIn_r _ [11, 12, 13, 136, 137, 138, 139, 140, 141, 142, 143, 144] rfl (by decide +kernel)
set_option maxRecDepth 20000 in
theorem gX1_readAll_X3_makeEmpty : GoodIn wsX1_readAll (wsV RX1 48 RX3 yX3_makeEmpty wsX3_makeEmpty) := goodIn_app (goodIn_r _ [7, 8, 9, 10] rfl (by decide +kernel)) ggX1_readAll_X3_makeEmpty
set_option maxRecDepth 20000 in
theorem ggX1_readAll_X1_nextSign : GoodIn wsX1_readAll wsX1_nextSign := goodIn_r _ [18, 1, 6, 19, 3, 126, 127, 128, 129, 130, 131, 132, 133, 134, 135] rfl (by decide +kernel)
set_option maxRecDepth 20000 in
theorem gX1_readAll_X1_nextSign : GoodIn wsX1_readAll (wsV RX1 51 RX1 yX1_nextSign wsX1_nextSign) := goodIn_app (goodIn_r _ [14, 15, 16, 17] rfl (by decide +kernel)) ggX1_readAll_X1_nextSign
set_option maxRecDepth 20000 in
theorem ggX1_readAll_X1_readOneVersion : GoodIn wsX1_readAll wsX1_readOneVersion := goodIn_r _ [23, 5, 1, 3, 24, 25, 26, 17, 27, 4, 28, 29, 30, 31, 32, 33, 34, 35, 36, 6, 19, 14, 15, 16, 18, 37, 38, 39, 40, 41, 42, 10, 43, 12, 44, 45, 46, 47, 48, 49, 50, 51, 52, 53, 54, 55, 56, 57, 58, 59, 60, 61, 62, 63, 64, 65, 66, 67, 68, 69, 70, 71, 72, 73, 74, 75, 76, 77, 78, 79, 80, 81, 82, 126, 127, 128, 129, 130, 131, 132, 133, 134, 135, 136, 137, 138, 139, 140, 141, 142, 143, 144] rfl (by decide +kernel)
set_option maxRecDepth 20000 in
theorem gX1_readAll_X1_readOneVersion : GoodIn wsX1_readAll (wsV RX1 55 RX1 yX1_readOneVersion wsX1_readOneVersion) := goodIn_app (goodIn_r _ [20, 21, 22, 17] rfl (by decide +kernel)) ggX1_readAll_X1_readOneVersion
set_option maxRecDepth 20000 in
theorem ggX1_readAll_X1_readItem : GoodIn wsX1_readAll wsX1_readItem := goodIn_r _ [86, 2, 1, 87, 88, 89, 17, 90, 32, 3, 91, 92, 48, 49, 50, 51, 5, 33, 34, 35, 36, 6, 19, 14, 15, 16, 18, 37, 38, 39, 24, 25, 26, 27, 4, 40, 41, 42, 10, 43, 12, 93, 94, 95, 96, 97, 98, 99, 100, 58, 56, 57, 52, 53, 54, 55, 59, 60, 61, 62, 101, 102, 103, 104, 105, 106, 107, 108, 109, 110, 111, 112, 113, 114, 13, 115, 116, 117, 118, 119, 120, 121, 122, 123, 124, 125, 126, 127, 128, 129, 130, 131, 132, 133, 134, 135, 136, 137, 138, 139, 140, 141, 142, 143, 144] rfl (by decide +kernel)
set_option maxRecDepth 20000 in
theorem gX1_readAll_X1_readItem : GoodIn wsX1_readAll (wsV RX1 58 RX1 yX1_readItem wsX1_readItem) := goodIn_app (goodIn_r _ [83, 84, 85, 17] rfl (by decide +kernel)) ggX1_readAll_X1_readItem
set_option maxRecDepth 20000 in
theorem ggX1_readAll_X1_fail : GoodIn wsX1_readAll wsX1_fail := goodIn_r _ [27, 3, 4, 126, 127, 128, 129, 130, 131, 132, 133, 134, 135] rfl (by decide +kernel)
set_option maxRecDepth 20000 in
theorem gX1_readAll_X1_fail : GoodIn wsX1_readAll (wsV RX1 62 RX1 yX1_fail wsX1_fail) := goodIn_app (goodIn_r _ [24, 25, 26, 17] rfl (by decide +kernel)) ggX1_readAll_X1_fail
theorem dX1_readAll_0 : decode cX1_readAll 0 = .ok (.aload_n 0, 1) := by decide +kernel
theorem dX1_readAll_1 : decode cX1_readAll 1 = .ok (.iconst 0, 1) := by decide +kernel
theorem dX1_readAll_2 : decode cX1_readAll 2 = .ok (.putfield 19, 3) := by decide +kernel
theorem dX1_readAll_5 : decode cX1_readAll 5 = .ok (.aload_n 0, 1) := by decide +kernel
theorem dX1_readAll_6 : decode cX1_readAll 6 = .ok (.iconst 0, 1) := by decide +kernel
theorem dX1_readAll_7 : decode cX1_readAll 7 = .ok (.putfield 38, 3) := by decide +kernel
theorem dX1_readAll_10 : decode cX1_readAll 10 = .ok (.aload_n 0, 1) := by decide +kernel
theorem dX1_readAll_11 : decode cX1_readAll 11 = .ok (.iconst 0, 1) := by decide +kernel
theorem dX1_readAll_12 : decode cX1_readAll 12 = .ok (.putfield 25, 3) := by decide +kernel
theorem dX1_readAll_15 : decode cX1_readAll 15 = .ok (.aload_n 0, 1) := by decide +kernel
theorem dX1_readAll_16 : decode cX1_readAll 16 = .ok (.iconst (-1), 1) := by decide +kernel
theorem dX1_readAll_17 : decode cX1_readAll 17 = .ok (.putfield 28, 3) := by decide +kernel
theorem dX1_readAll_20 : decode cX1_readAll 20 = .ok (.aload_n 0, 1) := by decide +kernel
theorem dX1_readAll_21 : decode cX1_readAll 21 = .ok (.getfield 44, 3) := by decide +kernel
theorem dX1_readAll_24 : decode cX1_readAll 24 = .ok (.invokevirtual 48, 3) := by decide +kernel
theorem dX1_readAll_27 : decode cX1_readAll 27 = .ok (.iconst 0, 1) := by decide +kernel
theorem dX1_readAll_28 : decode cX1_readAll 28 = .ok (.istore_n 1, 1) := by decide +kernel
theorem dX1_readAll_29 : decode cX1_readAll 29 = .ok (.iload_n 1, 1) := by decide +kernel
theorem dX1_readAll_30 : decode cX1_readAll 30 = .ok (.bipush 24, 2) := by decide +kernel
theorem dX1_readAll_32 : decode cX1_readAll 32 = .ok (.if_icmp .gt 22, 3) := by decide +kernel
theorem dX1_readAll_35 : decode cX1_readAll 35 = .ok (.aload_n 0, 1) := by decide +kernel
theorem dX1_readAll_36 : decode cX1_readAll 36 = .ok (.invokevirtual 51, 3) := by decide +kernel
theorem dX1_readAll_39 : decode cX1_readAll 39 = .ok (.bipush 118, 2) := by decide +kernel
theorem dX1_readAll_41 : decode cX1_readAll 41 = .ok (.if_icmp .ne 13, 3) := by decide +kernel
theorem dX1_readAll_44 : decode cX1_readAll 44 = .ok (.aload_n 0, 1) := by decide +kernel
theorem dX1_readAll_45 : decode cX1_readAll 45 = .ok (.invokevirtual 55, 3) := by decide +kernel
theorem dX1_readAll_48 : decode cX1_readAll 48 = .ok (.iinc 1 1, 3) := by decide +kernel
theorem dX1_readAll_51 : decode cX1_readAll 51 = .ok (.goto (-22), 3) := by decide +kernel
theorem dX1_readAll_54 : decode cX1_readAll 54 = .ok (.iconst 0, 1) := by decide +kernel
theorem dX1_readAll_55 : decode cX1_readAll 55 = .ok (.istore_n 1, 1) := by decide +kernel
theorem dX1_readAll_56 : decode cX1_readAll 56 = .ok (.iload_n 1, 1) := by decide +kernel
theorem dX1_readAll_57 : decode cX1_readAll 57 = .ok (.sipush 240, 3) := by decide +kernel
theorem dX1_readAll_60 : decode cX1_readAll 60 = .ok (.if_icmp .ge 25, 3) := by decide +kernel
theorem dX1_readAll_63 : decode cX1_readAll 63 = .ok (.aload_n 0, 1) := by decide +kernel
theorem dX1_readAll_64 : decode cX1_readAll 64 = .ok (.invokevirtual 51, 3) := by decide +kernel
theorem dX1_readAll_67 : decode cX1_readAll 67 = .ok (.iconst (-1), 1) := by decide +kernel
theorem dX1_readAll_68 : decode cX1_readAll 68 = .ok (.if_icmp .eq 17, 3) := by decide +kernel
theorem dX1_readAll_71 : decode cX1_readAll 71 = .ok (.aload_n 0, 1) := by decide +kernel
theorem dX1_readAll_72 : decode cX1_readAll 72 = .ok (.aload_n 0, 1) := by decide +kernel
theorem dX1_readAll_73 : decode cX1_readAll 73 = .ok (.invokevirtual 51, 3) := by decide +kernel
theorem dX1_readAll_76 : decode cX1_readAll 76 = .ok (.invokevirtual 58, 3) := by decide +kernel
theorem dX1_readAll_79 : decode cX1_readAll 79 = .ok (.iinc 1 1, 3) := by decide +kernel
theorem dX1_readAll_82 : decode cX1_readAll 82 = .ok (.goto (-26), 3) := by decide +kernel
theorem dX1_readAll_85 : decode cX1_readAll 85 = .ok (.aload_n 0, 1) := by decide +kernel
theorem dX1_readAll_86 : decode cX1_readAll 86 = .ok (.getfield 38, 3) := by decide +kernel
theorem dX1_readAll_89 : decode cX1_readAll 89 = .ok (.ifCond .le 12, 3) := by decide +kernel
theorem dX1_readAll_92 : decode cX1_readAll 92 = .ok (.aload_n 0, 1) := by decide +kernel
theorem dX1_readAll_93 : decode cX1_readAll 93 = .ok (.iconst 1, 1) := by decide +kernel
theorem dX1_readAll_94 : decode cX1_readAll 94 = .ok (.aload_n 0, 1) := by decide +kernel
theorem dX1_readAll_95 : decode cX1_readAll 95 = .ok (.getfield 15, 3) := by decide +kernel
theorem dX1_readAll_98 : decode cX1_readAll 98 = .ok (.invokevirtual 62, 3) := by decide +kernel
theorem dX1_readAll_101 : decode cX1_readAll 101 = .ok (.aload_n 0, 1) := by decide +kernel
theorem dX1_readAll_102 : decode cX1_readAll 102 = .ok (.iconst 0, 1) := by decide +kernel
theorem dX1_readAll_103 : decode cX1_readAll 103 = .ok (.putfield 15, 3) := by decide +kernel
theorem dX1_readAll_106 : decode cX1_readAll 106 = .ok (.aload_n 0, 1) := by decide +kernel
theorem dX1_readAll_107 : decode cX1_readAll 107 = .ok (.getfield 25, 3) := by decide +kernel
theorem dX1_readAll_110 : decode cX1_readAll 110 = .ok (.ireturn, 1) := by decide +kernel
theorem dX1_fail_0 : decode cX1_fail 0 = .ok (.aload_n 0, 1) := by decide +kernel
theorem dX1_fail_1 : decode cX1_fail 1 = .ok (.getfield 25, 3) := by decide +kernel
theorem dX1_fail_4 : decode cX1_fail 4 = .ok (.ifCond .ne 13, 3) := by decide +kernel
theorem dX1_fail_7 : decode cX1_fail 7 = .ok (.aload_n 0, 1) := by decide +kernel
theorem dX1_fail_8 : decode cX1_fail 8 = .ok (.iload_n 1, 1) := by decide +kernel
theorem dX1_fail_9 : decode cX1_fail 9 = .ok (.putfield 25, 3) := by decide +kernel
theorem dX1_fail_12 : decode cX1_fail 12 = .ok (.aload_n 0, 1) := by decide +kernel
theorem dX1_fail_13 : decode cX1_fail 13 = .ok (.iload_n 2, 1) := by decide +kernel
theorem dX1_fail_14 : decode cX1_fail 14 = .ok (.putfield 28, 3) := by decide +kernel
theorem dX1_fail_17 : decode cX1_fail 17 = .ok (.return_, 1) := by decide +kernel
theorem dX1_nextSign_0 : decode cX1_nextSign 0 = .ok (.aload_n 0, 1) := by decide +kernel
theorem dX1_nextSign_1 : decode cX1_nextSign 1 = .ok (.getfield 19, 3) := by decide +kernel
theorem dX1_nextSign_4 : decode cX1_nextSign 4 = .ok (.aload_n 0, 1) := by decide +kernel
theorem dX1_nextSign_5 : decode cX1_nextSign 5 = .ok (.getfield 15, 3) := by decide +kernel
theorem dX1_nextSign_8 : decode cX1_nextSign 8 = .ok (.if_icmp .ge 30, 3) := by decide +kernel
theorem dX1_nextSign_11 : decode cX1_nextSign 11 = .ok (.aload_n 0, 1) := by decide +kernel
theorem dX1_nextSign_12 : decode cX1_nextSign 12 = .ok (.getfield 9, 3) := by decide +kernel
theorem dX1_nextSign_15 : decode cX1_nextSign 15 = .ok (.aload_n 0, 1) := by decide +kernel
theorem dX1_nextSign_16 : decode cX1_nextSign 16 = .ok (.getfield 19, 3) := by decide +kernel
theorem dX1_nextSign_19 : decode cX1_nextSign 19 = .ok (.iaload, 1) := by decide +kernel
theorem dX1_nextSign_20 : decode cX1_nextSign 20 = .ok (.bipush 32, 2) := by decide +kernel
theorem dX1_nextSign_22 : decode cX1_nextSign 22 = .ok (.if_icmp .ne 16, 3) := by decide +kernel
theorem dX1_nextSign_25 : decode cX1_nextSign 25 = .ok (.aload_n 0, 1) := by decide +kernel
theorem dX1_nextSign_26 : decode cX1_nextSign 26 = .ok (.dup, 1) := by decide +kernel
theorem dX1_nextSign_27 : decode cX1_nextSign 27 = .ok (.getfield 19, 3) := by decide +kernel
theorem dX1_nextSign_30 : decode cX1_nextSign 30 = .ok (.iconst 1, 1) := by decide +kernel
theorem dX1_nextSign_31 : decode cX1_nextSign 31 = .ok (.iadd, 1) := by decide +kernel
theorem dX1_nextSign_32 : decode cX1_nextSign 32 = .ok (.putfield 19, 3) := by decide +kernel
theorem dX1_nextSign_35 : decode cX1_nextSign 35 = .ok (.goto (-35), 3) := by decide +kernel
theorem dX1_nextSign_38 : decode cX1_nextSign 38 = .ok (.aload_n 0, 1) := by decide +kernel
theorem dX1_nextSign_39 : decode cX1_nextSign 39 = .ok (.getfield 19, 3) := by decide +kernel
theorem dX1_nextSign_42 : decode cX1_nextSign 42 = .ok (.aload_n 0, 1) := by decide +kernel
theorem dX1_nextSign_43 : decode cX1_nextSign 43 = .ok (.getfield 15, 3) := by decide +kernel
theorem dX1_nextSign_46 : decode cX1_nextSign 46 = .ok (.if_icmp .ge 22, 3) := by decide +kernel
theorem dX1_nextSign_49 : decode cX1_nextSign 49 = .ok (.aload_n 0, 1) := by decide +kernel
theorem dX1_nextSign_50 : decode cX1_nextSign 50 = .ok (.getfield 25, 3) := by decide +kernel
theorem dX1_nextSign_53 : decode cX1_nextSign 53 = .ok (.ifCond .ne 15, 3) := by decide +kernel
theorem dX1_nextSign_56 : decode cX1_nextSign 56 = .ok (.aload_n 0, 1) := by decide +kernel
theorem dX1_nextSign_57 : decode cX1_nextSign 57 = .ok (.getfield 9, 3) := by decide +kernel
theorem dX1_nextSign_60 : decode cX1_nextSign 60 = .ok (.aload_n 0, 1) := by decide +kernel
theorem dX1_nextSign_61 : decode cX1_nextSign 61 = .ok (.getfield 19, 3) := by decide +kernel
theorem dX1_nextSign_64 : decode cX1_nextSign 64 = .ok (.iaload, 1) := by decide +kernel
theorem dX1_nextSign_65 : decode cX1_nextSign 65 = .ok (.goto 4, 3) := by decide +kernel
theorem dX1_nextSign_68 : decode cX1_nextSign 68 = .ok (.iconst (-1), 1) := by decide +kernel
theorem dX1_nextSign_69 : decode cX1_nextSign 69 = .ok (.ireturn, 1) := by decide +kernel
set_option maxRecDepth 20000 in
theorem ggX1_expect_X1_nextSign : GoodIn wsX1_expect wsX1_nextSign := goodIn_r _ [6, 1, 7, 8, 9, 15, 16, 17, 18, 19, 20, 21, 22, 23, 24] rfl (by decide +kernel)
set_option maxRecDepth 20000 in
theorem gX1_expect_X1_nextSign : GoodIn wsX1_expect (wsV RX1 51 RX1 yX1_nextSign wsX1_nextSign) := goodIn_app (goodIn_r _ [2, 3, 4, 5] rfl (by decide +kernel)) ggX1_expect_X1_nextSign
set_option maxRecDepth 20000 in
theorem ggX1_expect_X1_fail : GoodIn wsX1_expect wsX1_fail := goodIn_r _ [13, 9, 14, 15, 16, 17, 18, 19, 20, 21, 22, 23, 24] rfl (by decide +kernel)
set_option maxRecDepth 20000 in
theorem gX1_expect_X1_fail : GoodIn wsX1_expect (wsV RX1 62 RX1 yX1_fail wsX1_fail) := goodIn_app (goodIn_r _ [10, 11, 12, 5] rfl (by decide +kernel)) ggX1_expect_X1_fail
theorem dX1_expect_0 : decode cX1_expect 0 = .ok (.aload_n 0, 1) := by decide +kernel
theorem dX1_expect_1 : decode cX1_expect 1 = .ok (.invokevirtual 51, 3) := by decide +kernel
theorem dX1_expect_4 : decode cX1_expect 4 = .ok (.iload_n 1, 1) := by decide +kernel
theorem dX1_expect_5 : decode cX1_expect 5 = .ok (.if_icmp .ne 16, 3) := by decide +kernel
theorem dX1_expect_8 : decode cX1_expect 8 = .ok (.aload_n 0, 1) := by decide +kernel
theorem dX1_expect_9 : decode cX1_expect 9 = .ok (.dup, 1) := by decide +kernel
theorem dX1_expect_10 : decode cX1_expect 10 = .ok (.getfield 19, 3) := by decide +kernel
theorem dX1_expect_13 : decode cX1_expect 13 = .ok (.iconst 1, 1) := by decide +kernel
theorem dX1_expect_14 : decode cX1_expect 14 = .ok (.iadd, 1) := by decide +kernel
theorem dX1_expect_15 : decode cX1_expect 15 = .ok (.putfield 19, 3) := by decide +kernel
theorem dX1_expect_18 : decode cX1_expect 18 = .ok (.goto 12, 3) := by decide +kernel
theorem dX1_expect_21 : decode cX1_expect 21 = .ok (.aload_n 0, 1) := by decide +kernel
theorem dX1_expect_22 : decode cX1_expect 22 = .ok (.iconst 1, 1) := by decide +kernel
theorem dX1_expect_23 : decode cX1_expect 23 = .ok (.aload_n 0, 1) := by decide +kernel
theorem dX1_expect_24 : decode cX1_expect 24 = .ok (.getfield 19, 3) := by decide +kernel
theorem dX1_expect_27 : decode cX1_expect 27 = .ok (.invokevirtual 62, 3) := by decide +kernel
theorem dX1_expect_30 : decode cX1_expect 30 = .ok (.return_, 1) := by decide +kernel
theorem dX1_isFigure_0 : decode cX1_isFigure 0 = .ok (.iload_n 0, 1) := by decide +kernel
theorem dX1_isFigure_1 : decode cX1_isFigure 1 = .ok (.bipush 48, 2) := by decide +kernel
theorem dX1_isFigure_3 : decode cX1_isFigure 3 = .ok (.if_icmp .lt 13, 3) := by decide +kernel
theorem dX1_isFigure_6 : decode cX1_isFigure 6 = .ok (.iload_n 0, 1) := by decide +kernel
theorem dX1_isFigure_7 : decode cX1_isFigure 7 = .ok (.bipush 57, 2) := by decide +kernel
theorem dX1_isFigure_9 : decode cX1_isFigure 9 = .ok (.if_icmp .gt 7, 3) := by decide +kernel
theorem dX1_isFigure_12 : decode cX1_isFigure 12 = .ok (.iconst 1, 1) := by decide +kernel
theorem dX1_isFigure_13 : decode cX1_isFigure 13 = .ok (.goto 4, 3) := by decide +kernel
theorem dX1_isFigure_16 : decode cX1_isFigure 16 = .ok (.iconst 0, 1) := by decide +kernel
theorem dX1_isFigure_17 : decode cX1_isFigure 17 = .ok (.ireturn, 1) := by decide +kernel
set_option maxRecDepth 20000 in
theorem ggX1_readNumber_X1_nextSign : GoodIn wsX1_readNumber wsX1_nextSign := goodIn_r _ [9, 1, 3, 4, 10, 19, 20, 21, 22, 23, 24, 25, 26, 27, 28] rfl (by decide +kernel)
set_option maxRecDepth 20000 in
theorem gX1_readNumber_X1_nextSign : GoodIn wsX1_readNumber (wsV RX1 51 RX1 yX1_nextSign wsX1_nextSign) := goodIn_app (goodIn_r _ [5, 6, 7, 8] rfl (by decide +kernel)) ggX1_readNumber_X1_nextSign
set_option maxRecDepth 20000 in
theorem ggX1_readNumber_X1_isFigure : GoodIn wsX1_readNumber wsX1_isFigure := goodIn_r _ [13] rfl (by decide +kernel)
set_option maxRecDepth 20000 in
theorem gX1_readNumber_X1_isFigure : GoodIn wsX1_readNumber (va_wsS RX1 66 yX1_isFigure wsX1_isFigure) := goodIn_app (goodIn_r _ [11, 12, 8] rfl (by decide +kernel)) ggX1_readNumber_X1_isFigure
set_option maxRecDepth 20000 in
theorem ggX1_readNumber_X1_fail : GoodIn wsX1_readNumber wsX1_fail := goodIn_r _ [17, 10, 18, 19, 20, 21, 22, 23, 24, 25, 26, 27, 28] rfl (by decide +kernel)
set_option maxRecDepth 20000 in
theorem gX1_readNumber_X1_fail : GoodIn wsX1_readNumber (wsV RX1 62 RX1 yX1_fail wsX1_fail) := goodIn_app (goodIn_r _ [14, 15, 16, 8] rfl (by decide +kernel)) ggX1_readNumber_X1_fail
theorem dX1_readNumber_0 : decode cX1_readNumber 0 = .ok (.aload_n 0, 1) := by decide +kernel
theorem dX1_readNumber_1 : decode cX1_readNumber 1 = .ok (.invokevirtual 51, 3) := by decide +kernel
theorem dX1_readNumber_4 : decode cX1_readNumber 4 = .ok (.pop, 1) := by decide +kernel
theorem dX1_readNumber_5 : decode cX1_readNumber 5 = .ok (.aload_n 0, 1) := by decide +kernel
theorem dX1_readNumber_6 : decode cX1_readNumber 6 = .ok (.aload_n 0, 1) := by decide +kernel
theorem dX1_readNumber_7 : decode cX1_readNumber 7 = .ok (.getfield 19, 3) := by decide +kernel
theorem dX1_readNumber_10 : decode cX1_readNumber 10 = .ok (.putfield 22, 3) := by decide +kernel
theorem dX1_readNumber_13 : decode cX1_readNumber 13 = .ok (.iconst 0, 1) := by decide +kernel
theorem dX1_readNumber_14 : decode cX1_readNumber 14 = .ok (.istore_n 1, 1) := by decide +kernel
theorem dX1_readNumber_15 : decode cX1_readNumber 15 = .ok (.aload_n 0, 1) := by decide +kernel
theorem dX1_readNumber_16 : decode cX1_readNumber 16 = .ok (.getfield 19, 3) := by decide +kernel
theorem dX1_readNumber_19 : decode cX1_readNumber 19 = .ok (.aload_n 0, 1) := by decide +kernel
theorem dX1_readNumber_20 : decode cX1_readNumber 20 = .ok (.getfield 15, 3) := by decide +kernel
theorem dX1_readNumber_23 : decode cX1_readNumber 23 = .ok (.if_icmp .ge 66, 3) := by decide +kernel
theorem dX1_readNumber_26 : decode cX1_readNumber 26 = .ok (.aload_n 0, 1) := by decide +kernel
theorem dX1_readNumber_27 : decode cX1_readNumber 27 = .ok (.getfield 9, 3) := by decide +kernel
theorem dX1_readNumber_30 : decode cX1_readNumber 30 = .ok (.aload_n 0, 1) := by decide +kernel
theorem dX1_readNumber_31 : decode cX1_readNumber 31 = .ok (.getfield 19, 3) := by decide +kernel
theorem dX1_readNumber_34 : decode cX1_readNumber 34 = .ok (.iaload, 1) := by decide +kernel
theorem dX1_readNumber_35 : decode cX1_readNumber 35 = .ok (.invokestatic 66, 3) := by decide +kernel
theorem dX1_readNumber_38 : decode cX1_readNumber 38 = .ok (.ifCond .eq 51, 3) := by decide +kernel
theorem dX1_readNumber_41 : decode cX1_readNumber 41 = .ok (.aload_n 0, 1) := by decide +kernel
theorem dX1_readNumber_42 : decode cX1_readNumber 42 = .ok (.getfield 19, 3) := by decide +kernel
theorem dX1_readNumber_45 : decode cX1_readNumber 45 = .ok (.aload_n 0, 1) := by decide +kernel
theorem dX1_readNumber_46 : decode cX1_readNumber 46 = .ok (.getfield 22, 3) := by decide +kernel
theorem dX1_readNumber_49 : decode cX1_readNumber 49 = .ok (.isub, 1) := by decide +kernel
theorem dX1_readNumber_50 : decode cX1_readNumber 50 = .ok (.iconst 2, 1) := by decide +kernel
theorem dX1_readNumber_51 : decode cX1_readNumber 51 = .ok (.if_icmp .ge 23, 3) := by decide +kernel
theorem dX1_readNumber_54 : decode cX1_readNumber 54 = .ok (.iload_n 1, 1) := by decide +kernel
theorem dX1_readNumber_55 : decode cX1_readNumber 55 = .ok (.bipush 10, 2) := by decide +kernel
theorem dX1_readNumber_57 : decode cX1_readNumber 57 = .ok (.imul, 1) := by decide +kernel
theorem dX1_readNumber_58 : decode cX1_readNumber 58 = .ok (.aload_n 0, 1) := by decide +kernel
theorem dX1_readNumber_59 : decode cX1_readNumber 59 = .ok (.getfield 9, 3) := by decide +kernel
theorem dX1_readNumber_62 : decode cX1_readNumber 62 = .ok (.aload_n 0, 1) := by decide +kernel
theorem dX1_readNumber_63 : decode cX1_readNumber 63 = .ok (.getfield 19, 3) := by decide +kernel
theorem dX1_readNumber_66 : decode cX1_readNumber 66 = .ok (.iaload, 1) := by decide +kernel
theorem dX1_readNumber_67 : decode cX1_readNumber 67 = .ok (.iadd, 1) := by decide +kernel
theorem dX1_readNumber_68 : decode cX1_readNumber 68 = .ok (.bipush 48, 2) := by decide +kernel
theorem dX1_readNumber_70 : decode cX1_readNumber 70 = .ok (.isub, 1) := by decide +kernel
theorem dX1_readNumber_71 : decode cX1_readNumber 71 = .ok (.goto 4, 3) := by decide +kernel
theorem dX1_readNumber_74 : decode cX1_readNumber 74 = .ok (.iload_n 1, 1) := by decide +kernel
theorem dX1_readNumber_75 : decode cX1_readNumber 75 = .ok (.istore_n 1, 1) := by decide +kernel
theorem dX1_readNumber_76 : decode cX1_readNumber 76 = .ok (.aload_n 0, 1) := by decide +kernel
theorem dX1_readNumber_77 : decode cX1_readNumber 77 = .ok (.dup, 1) := by decide +kernel
theorem dX1_readNumber_78 : decode cX1_readNumber 78 = .ok (.getfield 19, 3) := by decide +kernel
theorem dX1_readNumber_81 : decode cX1_readNumber 81 = .ok (.iconst 1, 1) := by decide +kernel
theorem dX1_readNumber_82 : decode cX1_readNumber 82 = .ok (.iadd, 1) := by decide +kernel
theorem dX1_readNumber_83 : decode cX1_readNumber 83 = .ok (.putfield 19, 3) := by decide +kernel
theorem dX1_readNumber_86 : decode cX1_readNumber 86 = .ok (.goto (-71), 3) := by decide +kernel
theorem dX1_readNumber_89 : decode cX1_readNumber 89 = .ok (.aload_n 0, 1) := by decide +kernel
theorem dX1_readNumber_90 : decode cX1_readNumber 90 = .ok (.getfield 19, 3) := by decide +kernel
theorem dX1_readNumber_93 : decode cX1_readNumber 93 = .ok (.aload_n 0, 1) := by decide +kernel
theorem dX1_readNumber_94 : decode cX1_readNumber 94 = .ok (.getfield 22, 3) := by decide +kernel
theorem dX1_readNumber_97 : decode cX1_readNumber 97 = .ok (.if_icmp .ne 15, 3) := by decide +kernel
theorem dX1_readNumber_100 : decode cX1_readNumber 100 = .ok (.aload_n 0, 1) := by decide +kernel
theorem dX1_readNumber_101 : decode cX1_readNumber 101 = .ok (.iconst 1, 1) := by decide +kernel
theorem dX1_readNumber_102 : decode cX1_readNumber 102 = .ok (.aload_n 0, 1) := by decide +kernel
theorem dX1_readNumber_103 : decode cX1_readNumber 103 = .ok (.getfield 19, 3) := by decide +kernel
theorem dX1_readNumber_106 : decode cX1_readNumber 106 = .ok (.invokevirtual 62, 3) := by decide +kernel
theorem dX1_readNumber_109 : decode cX1_readNumber 109 = .ok (.goto 25, 3) := by decide +kernel
theorem dX1_readNumber_112 : decode cX1_readNumber 112 = .ok (.aload_n 0, 1) := by decide +kernel
theorem dX1_readNumber_113 : decode cX1_readNumber 113 = .ok (.getfield 19, 3) := by decide +kernel
theorem dX1_readNumber_116 : decode cX1_readNumber 116 = .ok (.aload_n 0, 1) := by decide +kernel
theorem dX1_readNumber_117 : decode cX1_readNumber 117 = .ok (.getfield 22, 3) := by decide +kernel
theorem dX1_readNumber_120 : decode cX1_readNumber 120 = .ok (.isub, 1) := by decide +kernel
theorem dX1_readNumber_121 : decode cX1_readNumber 121 = .ok (.iconst 2, 1) := by decide +kernel
theorem dX1_readNumber_122 : decode cX1_readNumber 122 = .ok (.if_icmp .le 12, 3) := by decide +kernel
theorem dX1_readNumber_125 : decode cX1_readNumber 125 = .ok (.aload_n 0, 1) := by decide +kernel
theorem dX1_readNumber_126 : decode cX1_readNumber 126 = .ok (.iconst 2, 1) := by decide +kernel
theorem dX1_readNumber_127 : decode cX1_readNumber 127 = .ok (.aload_n 0, 1) := by decide +kernel
theorem dX1_readNumber_128 : decode cX1_readNumber 128 = .ok (.getfield 22, 3) := by decide +kernel
theorem dX1_readNumber_131 : decode cX1_readNumber 131 = .ok (.invokevirtual 62, 3) := by decide +kernel
theorem dX1_readNumber_134 : decode cX1_readNumber 134 = .ok (.iload_n 1, 1) := by decide +kernel
theorem dX1_readNumber_135 : decode cX1_readNumber 135 = .ok (.ireturn, 1) := by decide +kernel
set_option maxRecDepth 20000 in
theorem ggX1_readVersionNumber_X1_readNumber : GoodIn wsX1_readVersionNumber wsX1_readNumber := goodIn_r _ [7, 8, 2, 9, 10, 11, 12, 13, 6, 14, 15, 16, 17, 18, 19, 20, 21, 22, 23, 30, 31, 32, 33, 34, 35, 36, 37, 38, 39] rfl (by decide +kernel)
set_option maxRecDepth 20000 in
theorem gX1_readVersionNumber_X1_readNumber : GoodIn wsX1_readVersionNumber (wsV RX1 70 RX1 yX1_readNumber wsX1_readNumber) := goodIn_app (goodIn_r _ [3, 4, 5, 6] rfl (by decide +kernel)) ggX1_readVersionNumber_X1_readNumber
set_option maxRecDepth 20000 in
theorem ggX1_readVersionNumber_X3_hasVersion : GoodIn wsX1_readVersionNumber wsX3_hasVersion := goodIn_r _ [28, 29, 40, 41, 42, 43, 44, 45, 46, 47, 48] rfl (by decide +kernel)
set_option maxRecDepth 20000 in
theorem gX1_readVersionNumber_X3_hasVersion : GoodIn wsX1_readVersionNumber (wsV RX1 73 RX3 yX3_hasVersion wsX3_hasVersion) := goodIn_app (goodIn_r _ [24, 25, 26, 27] rfl (by decide +kernel)) ggX1_readVersionNumber_X3_hasVersion
set_option maxRecDepth 20000 in
theorem ggX1_readVersionNumber_X1_fail : GoodIn wsX1_readVersionNumber wsX1_fail := goodIn_r _ [22, 15, 23, 30, 31, 32, 33, 34, 35, 36, 37, 38, 39] rfl (by decide +kernel)
set_option maxRecDepth 20000 in
theorem gX1_readVersionNumber_X1_fail : GoodIn wsX1_readVersionNumber (wsV RX1 62 RX1 yX1_fail wsX1_fail) := goodIn_app (goodIn_r _ [19, 20, 21, 6] rfl (by decide +kernel)) ggX1_readVersionNumber_X1_fail
theorem dX1_readVersionNumber_0 : decode cX1_readVersionNumber 0 = .ok (.aload_n 0, 1) := by decide +kernel
theorem dX1_readVersionNumber_1 : decode cX1_readVersionNumber 1 = .ok (.invokevirtual 70, 3) := by decide +kernel
theorem dX1_readVersionNumber_4 : decode cX1_readVersionNumber 4 = .ok (.istore_n 1, 1) := by decide +kernel
theorem dX1_readVersionNumber_5 : decode cX1_readVersionNumber 5 = .ok (.aload_n 0, 1) := by decide +kernel
theorem dX1_readVersionNumber_6 : decode cX1_readVersionNumber 6 = .ok (.getfield 44, 3) := by decide +kernel
theorem dX1_readVersionNumber_9 : decode cX1_readVersionNumber 9 = .ok (.iload_n 1, 1) := by decide +kernel
theorem dX1_readVersionNumber_10 : decode cX1_readVersionNumber 10 = .ok (.invokevirtual 73, 3) := by decide +kernel
theorem dX1_readVersionNumber_13 : decode cX1_readVersionNumber 13 = .ok (.ifCond .ne 12, 3) := by decide +kernel
theorem dX1_readVersionNumber_16 : decode cX1_readVersionNumber 16 = .ok (.aload_n 0, 1) := by decide +kernel
theorem dX1_readVersionNumber_17 : decode cX1_readVersionNumber 17 = .ok (.iconst 2, 1) := by decide +kernel
theorem dX1_readVersionNumber_18 : decode cX1_readVersionNumber 18 = .ok (.aload_n 0, 1) := by decide +kernel
theorem dX1_readVersionNumber_19 : decode cX1_readVersionNumber 19 = .ok (.getfield 22, 3) := by decide +kernel
theorem dX1_readVersionNumber_22 : decode cX1_readVersionNumber 22 = .ok (.invokevirtual 62, 3) := by decide +kernel
theorem dX1_readVersionNumber_25 : decode cX1_readVersionNumber 25 = .ok (.iload_n 1, 1) := by decide +kernel
theorem dX1_readVersionNumber_26 : decode cX1_readVersionNumber 26 = .ok (.ireturn, 1) := by decide +kernel
set_option maxRecDepth 20000 in
theorem ggX1_readParent_X1_readNumber : GoodIn wsX1_readParent wsX1_readNumber := goodIn_r _ [7, 8, 2, 9, 10, 11, 12, 13, 6, 14, 15, 16, 17, 18, 19, 20, 21, 22, 23, 30, 31, 32, 33, 34, 35, 36, 37, 38, 39] rfl (by decide +kernel)
set_option maxRecDepth 20000 in
theorem gX1_readParent_X1_readNumber : GoodIn wsX1_readParent (wsV RX1 70 RX1 yX1_readNumber wsX1_readNumber) := goodIn_app (goodIn_r _ [3, 4, 5, 6] rfl (by decide +kernel)) ggX1_readParent_X1_readNumber
set_option maxRecDepth 20000 in
theorem ggX1_readParent_X3_hasVersion : GoodIn wsX1_readParent wsX3_hasVersion := goodIn_r _ [28, 29, 40, 41, 42, 43, 44, 45, 46, 47, 48] rfl (by decide +kernel)
set_option maxRecDepth 20000 in
theorem gX1_readParent_X3_hasVersion : GoodIn wsX1_readParent (wsV RX1 73 RX3 yX3_hasVersion wsX3_hasVersion) := goodIn_app (goodIn_r _ [24, 25, 26, 27] rfl (by decide +kernel)) ggX1_readParent_X3_hasVersion
set_option maxRecDepth 20000 in
theorem ggX1_readParent_X1_fail : GoodIn wsX1_readParent wsX1_fail := goodIn_r _ [22, 15, 23, 30, 31, 32, 33, 34, 35, 36, 37, 38, 39] rfl (by decide +kernel)
set_option maxRecDepth 20000 in
theorem gX1_readParent_X1_fail : GoodIn wsX1_readParent (wsV RX1 62 RX1 yX1_fail wsX1_fail) := goodIn_app (goodIn_r _ [19, 20, 21, 6] rfl (by decide +kernel)) ggX1_readParent_X1_fail
theorem dX1_readParent_0 : decode cX1_readParent 0 = .ok (.aload_n 0, 1) := by decide +kernel
theorem dX1_readParent_1 : decode cX1_readParent 1 = .ok (.invokevirtual 70, 3) := by decide +kernel
theorem dX1_readParent_4 : decode cX1_readParent 4 = .ok (.istore_n 1, 1) := by decide +kernel
theorem dX1_readParent_5 : decode cX1_readParent 5 = .ok (.iload_n 1, 1) := by decide +kernel
theorem dX1_readParent_6 : decode cX1_readParent 6 = .ok (.bipush 99, 2) := by decide +kernel
theorem dX1_readParent_8 : decode cX1_readParent 8 = .ok (.if_icmp .eq 23, 3) := by decide +kernel
theorem dX1_readParent_11 : decode cX1_readParent 11 = .ok (.aload_n 0, 1) := by decide +kernel
theorem dX1_readParent_12 : decode cX1_readParent 12 = .ok (.getfield 44, 3) := by decide +kernel
theorem dX1_readParent_15 : decode cX1_readParent 15 = .ok (.iload_n 1, 1) := by decide +kernel
theorem dX1_readParent_16 : decode cX1_readParent 16 = .ok (.invokevirtual 73, 3) := by decide +kernel
theorem dX1_readParent_19 : decode cX1_readParent 19 = .ok (.ifCond .ne 12, 3) := by decide +kernel
theorem dX1_readParent_22 : decode cX1_readParent 22 = .ok (.aload_n 0, 1) := by decide +kernel
theorem dX1_readParent_23 : decode cX1_readParent 23 = .ok (.iconst 2, 1) := by decide +kernel
theorem dX1_readParent_24 : decode cX1_readParent 24 = .ok (.aload_n 0, 1) := by decide +kernel
theorem dX1_readParent_25 : decode cX1_readParent 25 = .ok (.getfield 22, 3) := by decide +kernel
theorem dX1_readParent_28 : decode cX1_readParent 28 = .ok (.invokevirtual 62, 3) := by decide +kernel
theorem dX1_readParent_31 : decode cX1_readParent 31 = .ok (.iload_n 1, 1) := by decide +kernel
theorem dX1_readParent_32 : decode cX1_readParent 32 = .ok (.bipush 99, 2) := by decide +kernel
theorem dX1_readParent_34 : decode cX1_readParent 34 = .ok (.if_icmp .ne 7, 3) := by decide +kernel
theorem dX1_readParent_37 : decode cX1_readParent 37 = .ok (.iconst (-1), 1) := by decide +kernel
theorem dX1_readParent_38 : decode cX1_readParent 38 = .ok (.goto 4, 3) := by decide +kernel
theorem dX1_readParent_41 : decode cX1_readParent 41 = .ok (.iload_n 1, 1) := by decide +kernel
theorem dX1_readParent_42 : decode cX1_readParent 42 = .ok (.ireturn, 1) := by decide +kernel
set_option maxRecDepth 20000 in
theorem ggX1_readOneVersion_X1_fail : GoodIn wsX1_readOneVersion wsX1_fail := goodIn_r _ [8, 3, 9, 73, 74, 75, 76, 77, 78, 79, 80, 81, 82] rfl (by decide +kernel)
set_option maxRecDepth 20000 in
theorem gX1_readOneVersion_X1_fail : GoodIn wsX1_readOneVersion (wsV RX1 62 RX1 yX1_fail wsX1_fail) := goodIn_app (goodIn_r _ [4, 5, 6, 7] rfl (by decide +kernel)) ggX1_readOneVersion_X1_fail
set_option maxRecDepth 20000 in
theorem ggX1_readOneVersion_X1_readParent : GoodIn wsX1_readOneVersion wsX1_readParent := goodIn_r _ [13, 1, 14, 15, 16, 17, 7, 18, 2, 19, 20, 21, 22, 23, 24, 3, 25, 26, 27, 4, 5, 6, 8, 9, 28, 29, 30, 31, 32, 33, 73, 74, 75, 76, 77, 78, 79, 80, 81, 82, 83, 84, 85, 86, 87, 88, 89, 90, 91] rfl (by decide +kernel)
set_option maxRecDepth 20000 in
theorem gX1_readOneVersion_X1_readParent : GoodIn wsX1_readOneVersion (wsV RX1 79 RX1 yX1_readParent wsX1_readParent) := goodIn_app (goodIn_r _ [10, 11, 12, 7] rfl (by decide +kernel)) ggX1_readOneVersion_X1_readParent
set_option maxRecDepth 20000 in
theorem ggX1_readOneVersion_X1_readOthers : GoodIn wsX1_readOneVersion wsX1_readOthers := goodIn_r _ [37, 2, 14, 21, 22, 23, 7, 24, 19, 20, 3, 38, 39, 40, 41, 1, 15, 16, 17, 18, 25, 26, 27, 4, 5, 6, 8, 9, 28, 29, 30, 31, 32, 33, 42, 43, 44, 45, 46, 47, 48, 73, 74, 75, 76, 77, 78, 79, 80, 81, 82, 83, 84, 85, 86, 87, 88, 89, 90, 91] rfl (by decide +kernel)
set_option maxRecDepth 20000 in
theorem gX1_readOneVersion_X1_readOthers : GoodIn wsX1_readOneVersion (wsV RX1 82 RX1 yX1_readOthers wsX1_readOthers) := goodIn_app (goodIn_r _ [34, 35, 36, 7] rfl (by decide +kernel)) ggX1_readOneVersion_X1_readOthers
set_option maxRecDepth 20000 in
theorem ggX1_readOneVersion_X1_expect : GoodIn wsX1_readOneVersion wsX1_expect := goodIn_r _ [52, 2, 21, 22, 23, 7, 24, 19, 20, 3, 4, 5, 6, 8, 9, 73, 74, 75, 76, 77, 78, 79, 80, 81, 82] rfl (by decide +kernel)
set_option maxRecDepth 20000 in
theorem gX1_readOneVersion_X1_expect : GoodIn wsX1_readOneVersion (wsV RX1 86 RX1 yX1_expect wsX1_expect) := goodIn_app (goodIn_r _ [49, 50, 51, 7] rfl (by decide +kernel)) ggX1_readOneVersion_X1_expect
set_option maxRecDepth 20000 in
theorem ggX1_readOneVersion_X3_beginVersion : GoodIn wsX1_readOneVersion wsX3_beginVersion := goodIn_r _ [56, 33, 57, 58, 59, 60, 61, 62, 31, 63, 64, 65, 66, 67, 68, 45, 46, 47, 83, 84, 85, 86, 87, 88, 89, 90, 91] rfl (by decide +kernel)
set_option maxRecDepth 20000 in
theorem gX1_readOneVersion_X3_beginVersion : GoodIn wsX1_readOneVersion (wsV RX1 89 RX3 yX3_beginVersion wsX3_beginVersion) := goodIn_app (goodIn_r _ [53, 54, 55, 31] rfl (by decide +kernel)) ggX1_readOneVersion_X3_beginVersion
set_option maxRecDepth 20000 in
theorem ggX1_readOneVersion_X3_finishVersion : GoodIn wsX1_readOneVersion wsX3_finishVersion := goodIn_r _ [72, 33, 83, 84, 85, 86, 87, 88, 89, 90, 91] rfl (by decide +kernel)
set_option maxRecDepth 20000 in
theorem gX1_readOneVersion_X3_finishVersion : GoodIn wsX1_readOneVersion (wsV RX1 93 RX3 yX3_finishVersion wsX3_finishVersion) := goodIn_app (goodIn_r _ [69, 70, 71, 31] rfl (by decide +kernel)) ggX1_readOneVersion_X3_finishVersion
theorem dX1_readOneVersion_0 : decode cX1_readOneVersion 0 = .ok (.aload_n 0, 1) := by decide +kernel
theorem dX1_readOneVersion_1 : decode cX1_readOneVersion 1 = .ok (.getfield 44, 3) := by decide +kernel
theorem dX1_readOneVersion_4 : decode cX1_readOneVersion 4 = .ok (.getfield 76, 3) := by decide +kernel
theorem dX1_readOneVersion_7 : decode cX1_readOneVersion 7 = .ok (.bipush 24, 2) := by decide +kernel
theorem dX1_readOneVersion_9 : decode cX1_readOneVersion 9 = .ok (.if_icmp .lt 13, 3) := by decide +kernel
theorem dX1_readOneVersion_12 : decode cX1_readOneVersion 12 = .ok (.aload_n 0, 1) := by decide +kernel
theorem dX1_readOneVersion_13 : decode cX1_readOneVersion 13 = .ok (.iconst 3, 1) := by decide +kernel
theorem dX1_readOneVersion_14 : decode cX1_readOneVersion 14 = .ok (.aload_n 0, 1) := by decide +kernel
theorem dX1_readOneVersion_15 : decode cX1_readOneVersion 15 = .ok (.getfield 19, 3) := by decide +kernel
theorem dX1_readOneVersion_18 : decode cX1_readOneVersion 18 = .ok (.invokevirtual 62, 3) := by decide +kernel
theorem dX1_readOneVersion_21 : decode cX1_readOneVersion 21 = .ok (.return_, 1) := by decide +kernel
theorem dX1_readOneVersion_22 : decode cX1_readOneVersion 22 = .ok (.aload_n 0, 1) := by decide +kernel
theorem dX1_readOneVersion_23 : decode cX1_readOneVersion 23 = .ok (.dup, 1) := by decide +kernel
theorem dX1_readOneVersion_24 : decode cX1_readOneVersion 24 = .ok (.getfield 19, 3) := by decide +kernel
theorem dX1_readOneVersion_27 : decode cX1_readOneVersion 27 = .ok (.iconst 1, 1) := by decide +kernel
theorem dX1_readOneVersion_28 : decode cX1_readOneVersion 28 = .ok (.iadd, 1) := by decide +kernel
theorem dX1_readOneVersion_29 : decode cX1_readOneVersion 29 = .ok (.putfield 19, 3) := by decide +kernel
theorem dX1_readOneVersion_32 : decode cX1_readOneVersion 32 = .ok (.aload_n 0, 1) := by decide +kernel
theorem dX1_readOneVersion_33 : decode cX1_readOneVersion 33 = .ok (.invokevirtual 79, 3) := by decide +kernel
theorem dX1_readOneVersion_36 : decode cX1_readOneVersion 36 = .ok (.istore_n 1, 1) := by decide +kernel
theorem dX1_readOneVersion_37 : decode cX1_readOneVersion 37 = .ok (.aload_n 0, 1) := by decide +kernel
theorem dX1_readOneVersion_38 : decode cX1_readOneVersion 38 = .ok (.bipush 43, 2) := by decide +kernel
theorem dX1_readOneVersion_40 : decode cX1_readOneVersion 40 = .ok (.iconst 0, 1) := by decide +kernel
theorem dX1_readOneVersion_41 : decode cX1_readOneVersion 41 = .ok (.invokevirtual 82, 3) := by decide +kernel
theorem dX1_readOneVersion_44 : decode cX1_readOneVersion 44 = .ok (.istore_n 2, 1) := by decide +kernel
theorem dX1_readOneVersion_45 : decode cX1_readOneVersion 45 = .ok (.aload_n 0, 1) := by decide +kernel
theorem dX1_readOneVersion_46 : decode cX1_readOneVersion 46 = .ok (.bipush 45, 2) := by decide +kernel
theorem dX1_readOneVersion_48 : decode cX1_readOneVersion 48 = .ok (.iload_n 2, 1) := by decide +kernel
theorem dX1_readOneVersion_49 : decode cX1_readOneVersion 49 = .ok (.invokevirtual 82, 3) := by decide +kernel
theorem dX1_readOneVersion_52 : decode cX1_readOneVersion 52 = .ok (.istore_n 3, 1) := by decide +kernel
theorem dX1_readOneVersion_53 : decode cX1_readOneVersion 53 = .ok (.aload_n 0, 1) := by decide +kernel
theorem dX1_readOneVersion_54 : decode cX1_readOneVersion 54 = .ok (.bipush 59, 2) := by decide +kernel
theorem dX1_readOneVersion_56 : decode cX1_readOneVersion 56 = .ok (.invokevirtual 86, 3) := by decide +kernel
theorem dX1_readOneVersion_59 : decode cX1_readOneVersion 59 = .ok (.aload_n 0, 1) := by decide +kernel
theorem dX1_readOneVersion_60 : decode cX1_readOneVersion 60 = .ok (.getfield 25, 3) := by decide +kernel
theorem dX1_readOneVersion_63 : decode cX1_readOneVersion 63 = .ok (.ifCond .ne 20, 3) := by decide +kernel
theorem dX1_readOneVersion_66 : decode cX1_readOneVersion 66 = .ok (.aload_n 0, 1) := by decide +kernel
theorem dX1_readOneVersion_67 : decode cX1_readOneVersion 67 = .ok (.getfield 44, 3) := by decide +kernel
theorem dX1_readOneVersion_70 : decode cX1_readOneVersion 70 = .ok (.iload_n 1, 1) := by decide +kernel
theorem dX1_readOneVersion_71 : decode cX1_readOneVersion 71 = .ok (.iload_n 2, 1) := by decide +kernel
theorem dX1_readOneVersion_72 : decode cX1_readOneVersion 72 = .ok (.iload_n 3, 1) := by decide +kernel
theorem dX1_readOneVersion_73 : decode cX1_readOneVersion 73 = .ok (.invokevirtual 89, 3) := by decide +kernel
theorem dX1_readOneVersion_76 : decode cX1_readOneVersion 76 = .ok (.aload_n 0, 1) := by decide +kernel
theorem dX1_readOneVersion_77 : decode cX1_readOneVersion 77 = .ok (.getfield 44, 3) := by decide +kernel
theorem dX1_readOneVersion_80 : decode cX1_readOneVersion 80 = .ok (.invokevirtual 93, 3) := by decide +kernel
theorem dX1_readOneVersion_83 : decode cX1_readOneVersion 83 = .ok (.return_, 1) := by decide +kernel
set_option maxRecDepth 20000 in
theorem ggX1_readOthers_X1_nextSign : GoodIn wsX1_readOthers wsX1_nextSign := goodIn_r _ [7, 1, 8, 9, 10, 41, 42, 43, 44, 45, 46, 47, 48, 49, 50] rfl (by decide +kernel)
set_option maxRecDepth 20000 in
theorem gX1_readOthers_X1_nextSign : GoodIn wsX1_readOthers (wsV RX1 51 RX1 yX1_nextSign wsX1_nextSign) := goodIn_app (goodIn_r _ [3, 4, 5, 6] rfl (by decide +kernel)) ggX1_readOthers_X1_nextSign
set_option maxRecDepth 20000 in
theorem ggX1_readOthers_X1_readVersionNumber : GoodIn wsX1_readOthers wsX1_readVersionNumber := goodIn_r _ [14, 15, 2, 16, 17, 18, 6, 19, 1, 8, 9, 3, 4, 5, 7, 10, 20, 21, 22, 23, 24, 25, 26, 27, 28, 29, 30, 31, 32, 33, 41, 42, 43, 44, 45, 46, 47, 48, 49, 50, 51, 52, 53, 54, 55, 56, 57, 58, 59] rfl (by decide +kernel)
set_option maxRecDepth 20000 in
theorem gX1_readOthers_X1_readVersionNumber : GoodIn wsX1_readOthers (wsV RX1 96 RX1 yX1_readVersionNumber wsX1_readVersionNumber) := goodIn_app (goodIn_r _ [11, 12, 13, 6] rfl (by decide +kernel)) ggX1_readOthers_X1_readVersionNumber
set_option maxRecDepth 20000 in
theorem ggX1_readOthers_X3_holds : GoodIn wsX1_readOthers wsX3_holds := goodIn_r _ [36, 37, 38, 31, 39] rfl (by decide +kernel)
set_option maxRecDepth 20000 in
theorem gX1_readOthers_X3_holds : GoodIn wsX1_readOthers (va_wsS RX1 99 yX3_holds wsX3_holds) := goodIn_app (goodIn_r _ [34, 35, 31] rfl (by decide +kernel)) ggX1_readOthers_X3_holds
set_option maxRecDepth 20000 in
theorem ggX1_readOthers_X1_fail : GoodIn wsX1_readOthers wsX1_fail := goodIn_r _ [26, 10, 27, 41, 42, 43, 44, 45, 46, 47, 48, 49, 50] rfl (by decide +kernel)
set_option maxRecDepth 20000 in
theorem gX1_readOthers_X1_fail : GoodIn wsX1_readOthers (wsV RX1 62 RX1 yX1_fail wsX1_fail) := goodIn_app (goodIn_r _ [23, 24, 25, 6] rfl (by decide +kernel)) ggX1_readOthers_X1_fail
set_option maxRecDepth 20000 in
theorem ggX1_readOthers_X3_only : GoodIn wsX1_readOthers wsX3_only := goodIn_r _ [39] rfl (by decide +kernel)
set_option maxRecDepth 20000 in
theorem gX1_readOthers_X3_only : GoodIn wsX1_readOthers (va_wsS RX1 103 yX3_only wsX3_only) := goodIn_app (goodIn_r _ [40, 38, 31] rfl (by decide +kernel)) ggX1_readOthers_X3_only
theorem dX1_readOthers_0 : decode cX1_readOthers 0 = .ok (.iconst 0, 1) := by decide +kernel
theorem dX1_readOthers_1 : decode cX1_readOthers 1 = .ok (.istore_n 3, 1) := by decide +kernel
theorem dX1_readOthers_2 : decode cX1_readOthers 2 = .ok (.iconst 0, 1) := by decide +kernel
theorem dX1_readOthers_3 : decode cX1_readOthers 3 = .ok (.istore 4, 2) := by decide +kernel
theorem dX1_readOthers_5 : decode cX1_readOthers 5 = .ok (.iload 4, 2) := by decide +kernel
theorem dX1_readOthers_7 : decode cX1_readOthers 7 = .ok (.bipush 24, 2) := by decide +kernel
theorem dX1_readOthers_9 : decode cX1_readOthers 9 = .ok (.if_icmp .gt 61, 3) := by decide +kernel
theorem dX1_readOthers_12 : decode cX1_readOthers 12 = .ok (.aload_n 0, 1) := by decide +kernel
theorem dX1_readOthers_13 : decode cX1_readOthers 13 = .ok (.invokevirtual 51, 3) := by decide +kernel
theorem dX1_readOthers_16 : decode cX1_readOthers 16 = .ok (.iload_n 1, 1) := by decide +kernel
theorem dX1_readOthers_17 : decode cX1_readOthers 17 = .ok (.if_icmp .ne 53, 3) := by decide +kernel
theorem dX1_readOthers_20 : decode cX1_readOthers 20 = .ok (.aload_n 0, 1) := by decide +kernel
theorem dX1_readOthers_21 : decode cX1_readOthers 21 = .ok (.dup, 1) := by decide +kernel
theorem dX1_readOthers_22 : decode cX1_readOthers 22 = .ok (.getfield 19, 3) := by decide +kernel
theorem dX1_readOthers_25 : decode cX1_readOthers 25 = .ok (.iconst 1, 1) := by decide +kernel
theorem dX1_readOthers_26 : decode cX1_readOthers 26 = .ok (.iadd, 1) := by decide +kernel
theorem dX1_readOthers_27 : decode cX1_readOthers 27 = .ok (.putfield 19, 3) := by decide +kernel
theorem dX1_readOthers_30 : decode cX1_readOthers 30 = .ok (.aload_n 0, 1) := by decide +kernel
theorem dX1_readOthers_31 : decode cX1_readOthers 31 = .ok (.invokevirtual 96, 3) := by decide +kernel
theorem dX1_readOthers_34 : decode cX1_readOthers 34 = .ok (.istore 5, 2) := by decide +kernel
theorem dX1_readOthers_36 : decode cX1_readOthers 36 = .ok (.iload_n 2, 1) := by decide +kernel
theorem dX1_readOthers_37 : decode cX1_readOthers 37 = .ok (.iload_n 3, 1) := by decide +kernel
theorem dX1_readOthers_38 : decode cX1_readOthers 38 = .ok (.ior, 1) := by decide +kernel
theorem dX1_readOthers_39 : decode cX1_readOthers 39 = .ok (.iload 5, 2) := by decide +kernel
theorem dX1_readOthers_41 : decode cX1_readOthers 41 = .ok (.invokestatic 99, 3) := by decide +kernel
theorem dX1_readOthers_44 : decode cX1_readOthers 44 = .ok (.ifCond .eq 12, 3) := by decide +kernel
theorem dX1_readOthers_47 : decode cX1_readOthers 47 = .ok (.aload_n 0, 1) := by decide +kernel
theorem dX1_readOthers_48 : decode cX1_readOthers 48 = .ok (.iconst 4, 1) := by decide +kernel
theorem dX1_readOthers_49 : decode cX1_readOthers 49 = .ok (.aload_n 0, 1) := by decide +kernel
theorem dX1_readOthers_50 : decode cX1_readOthers 50 = .ok (.getfield 22, 3) := by decide +kernel
theorem dX1_readOthers_53 : decode cX1_readOthers 53 = .ok (.invokevirtual 62, 3) := by decide +kernel
theorem dX1_readOthers_56 : decode cX1_readOthers 56 = .ok (.iload_n 3, 1) := by decide +kernel
theorem dX1_readOthers_57 : decode cX1_readOthers 57 = .ok (.iload 5, 2) := by decide +kernel
theorem dX1_readOthers_59 : decode cX1_readOthers 59 = .ok (.invokestatic 103, 3) := by decide +kernel
theorem dX1_readOthers_62 : decode cX1_readOthers 62 = .ok (.ior, 1) := by decide +kernel
theorem dX1_readOthers_63 : decode cX1_readOthers 63 = .ok (.istore_n 3, 1) := by decide +kernel
theorem dX1_readOthers_64 : decode cX1_readOthers 64 = .ok (.iinc 4 1, 3) := by decide +kernel
theorem dX1_readOthers_67 : decode cX1_readOthers 67 = .ok (.goto (-62), 3) := by decide +kernel
theorem dX1_readOthers_70 : decode cX1_readOthers 70 = .ok (.iload_n 3, 1) := by decide +kernel
theorem dX1_readOthers_71 : decode cX1_readOthers 71 = .ok (.ireturn, 1) := by decide +kernel
set_option maxRecDepth 20000 in
theorem ggX1_readItem_X1_beginBlock : GoodIn wsX1_readItem wsX1_beginBlock := goodIn_r _ [7, 2, 8, 9, 1, 10, 11, 12, 13, 14, 6, 15, 16, 17, 18, 19, 20, 21, 22, 23, 24, 25, 26, 27, 28, 29, 30, 31, 32, 33, 34, 35, 36, 37, 38, 39, 40, 41, 42, 43, 44, 45, 46, 47, 48, 49, 50, 51, 52, 53, 54, 55, 56, 57, 58, 59, 86, 87, 88, 89, 90, 91, 92, 93, 94, 95, 96, 97, 98, 99, 100, 101, 102, 103, 104] rfl (by decide +kernel)
set_option maxRecDepth 20000 in
theorem gX1_readItem_X1_beginBlock : GoodIn wsX1_readItem (wsV RX1 107 RX1 yX1_beginBlock wsX1_beginBlock) := goodIn_app (goodIn_r _ [3, 4, 5, 6] rfl (by decide +kernel)) ggX1_readItem_X1_beginBlock
set_option maxRecDepth 20000 in
theorem ggX1_readItem_X4_isSign : GoodIn wsX1_readItem wsX4_isSign := goodIn_r _ [62] rfl (by decide +kernel)
set_option maxRecDepth 20000 in
theorem gX1_readItem_X4_isSign_n111 : GoodIn wsX1_readItem (wsX4_isSign) := ggX1_readItem_X4_isSign
set_option maxRecDepth 20000 in
theorem ggX1_readItem_X1_bringerAround : GoodIn wsX1_readItem wsX1_bringerAround := goodIn_r _ [44, 1, 10, 11, 86, 87, 88, 89, 90, 91, 92, 93, 94, 95] rfl (by decide +kernel)
set_option maxRecDepth 20000 in
theorem gX1_readItem_X1_bringerAround : GoodIn wsX1_readItem (wsV RX1 114 RX1 yX1_bringerAround wsX1_bringerAround) := goodIn_app (goodIn_r _ [41, 42, 43, 6] rfl (by decide +kernel)) ggX1_readItem_X1_bringerAround
set_option maxRecDepth 20000 in
theorem ggX1_readItem_X1_readOneLine : GoodIn wsX1_readItem wsX1_readOneLine := goodIn_r _ [66, 16, 2, 41, 42, 43, 6, 44, 1, 10, 11, 45, 46, 47, 48, 49, 50, 38, 51, 30, 31, 32, 33, 9, 34, 67, 68, 69, 70, 71, 72, 73, 74, 75, 76, 77, 78, 79, 80, 81, 82, 83, 84, 85, 86, 87, 88, 89, 90, 91, 92, 93, 94, 95, 96, 97, 98, 99, 100, 101, 102, 103, 104] rfl (by decide +kernel)
set_option maxRecDepth 20000 in
theorem gX1_readItem_X1_readOneLine : GoodIn wsX1_readItem (wsV RX1 117 RX1 yX1_readOneLine wsX1_readOneLine) := goodIn_app (goodIn_r _ [63, 64, 65, 6] rfl (by decide +kernel)) ggX1_readItem_X1_readOneLine
set_option maxRecDepth 20000 in
theorem ggX1_readItem_X1_fail : GoodIn wsX1_readItem wsX1_fail := goodIn_r _ [33, 9, 34, 86, 87, 88, 89, 90, 91, 92, 93, 94, 95] rfl (by decide +kernel)
set_option maxRecDepth 20000 in
theorem gX1_readItem_X1_fail : GoodIn wsX1_readItem (wsV RX1 62 RX1 yX1_fail wsX1_fail) := goodIn_app (goodIn_r _ [30, 31, 32, 6] rfl (by decide +kernel)) ggX1_readItem_X1_fail
theorem dX1_readItem_0 : decode cX1_readItem 0 = .ok (.iload_n 1, 1) := by decide +kernel
theorem dX1_readItem_1 : decode cX1_readItem 1 = .ok (.bipush 105, 2) := by decide +kernel
theorem dX1_readItem_3 : decode cX1_readItem 3 = .ok (.if_icmp .eq 9, 3) := by decide +kernel
theorem dX1_readItem_6 : decode cX1_readItem 6 = .ok (.iload_n 1, 1) := by decide +kernel
theorem dX1_readItem_7 : decode cX1_readItem 7 = .ok (.bipush 100, 2) := by decide +kernel
theorem dX1_readItem_9 : decode cX1_readItem 9 = .ok (.if_icmp .ne 21, 3) := by decide +kernel
theorem dX1_readItem_12 : decode cX1_readItem 12 = .ok (.aload_n 0, 1) := by decide +kernel
theorem dX1_readItem_13 : decode cX1_readItem 13 = .ok (.iload_n 1, 1) := by decide +kernel
theorem dX1_readItem_14 : decode cX1_readItem 14 = .ok (.bipush 105, 2) := by decide +kernel
theorem dX1_readItem_16 : decode cX1_readItem 16 = .ok (.if_icmp .ne 7, 3) := by decide +kernel
theorem dX1_readItem_19 : decode cX1_readItem 19 = .ok (.iconst 1, 1) := by decide +kernel
theorem dX1_readItem_20 : decode cX1_readItem 20 = .ok (.goto 4, 3) := by decide +kernel
theorem dX1_readItem_23 : decode cX1_readItem 23 = .ok (.iconst 0, 1) := by decide +kernel
theorem dX1_readItem_24 : decode cX1_readItem 24 = .ok (.invokevirtual 107, 3) := by decide +kernel
theorem dX1_readItem_27 : decode cX1_readItem 27 = .ok (.goto 71, 3) := by decide +kernel
theorem dX1_readItem_30 : decode cX1_readItem 30 = .ok (.iload_n 1, 1) := by decide +kernel
theorem dX1_readItem_31 : decode cX1_readItem 31 = .ok (.bipush 41, 2) := by decide +kernel
theorem dX1_readItem_33 : decode cX1_readItem 33 = .ok (.if_icmp .ne 33, 3) := by decide +kernel
theorem dX1_readItem_36 : decode cX1_readItem 36 = .ok (.aload_n 0, 1) := by decide +kernel
theorem dX1_readItem_37 : decode cX1_readItem 37 = .ok (.getfield 38, 3) := by decide +kernel
theorem dX1_readItem_40 : decode cX1_readItem 40 = .ok (.ifCond .le 26, 3) := by decide +kernel
theorem dX1_readItem_43 : decode cX1_readItem 43 = .ok (.aload_n 0, 1) := by decide +kernel
theorem dX1_readItem_44 : decode cX1_readItem 44 = .ok (.dup, 1) := by decide +kernel
theorem dX1_readItem_45 : decode cX1_readItem 45 = .ok (.getfield 38, 3) := by decide +kernel
theorem dX1_readItem_48 : decode cX1_readItem 48 = .ok (.iconst 1, 1) := by decide +kernel
theorem dX1_readItem_49 : decode cX1_readItem 49 = .ok (.isub, 1) := by decide +kernel
theorem dX1_readItem_50 : decode cX1_readItem 50 = .ok (.putfield 38, 3) := by decide +kernel
theorem dX1_readItem_53 : decode cX1_readItem 53 = .ok (.aload_n 0, 1) := by decide +kernel
theorem dX1_readItem_54 : decode cX1_readItem 54 = .ok (.dup, 1) := by decide +kernel
theorem dX1_readItem_55 : decode cX1_readItem 55 = .ok (.getfield 19, 3) := by decide +kernel
theorem dX1_readItem_58 : decode cX1_readItem 58 = .ok (.iconst 1, 1) := by decide +kernel
theorem dX1_readItem_59 : decode cX1_readItem 59 = .ok (.iadd, 1) := by decide +kernel
theorem dX1_readItem_60 : decode cX1_readItem 60 = .ok (.putfield 19, 3) := by decide +kernel
theorem dX1_readItem_63 : decode cX1_readItem 63 = .ok (.goto 35, 3) := by decide +kernel
theorem dX1_readItem_66 : decode cX1_readItem 66 = .ok (.iload_n 1, 1) := by decide +kernel
theorem dX1_readItem_67 : decode cX1_readItem 67 = .ok (.invokestatic 111, 3) := by decide +kernel
theorem dX1_readItem_70 : decode cX1_readItem 70 = .ok (.ifCond .eq 19, 3) := by decide +kernel
theorem dX1_readItem_73 : decode cX1_readItem 73 = .ok (.aload_n 0, 1) := by decide +kernel
theorem dX1_readItem_74 : decode cX1_readItem 74 = .ok (.invokevirtual 114, 3) := by decide +kernel
theorem dX1_readItem_77 : decode cX1_readItem 77 = .ok (.iconst (-1), 1) := by decide +kernel
theorem dX1_readItem_78 : decode cX1_readItem 78 = .ok (.if_icmp .eq 11, 3) := by decide +kernel
theorem dX1_readItem_81 : decode cX1_readItem 81 = .ok (.aload_n 0, 1) := by decide +kernel
theorem dX1_readItem_82 : decode cX1_readItem 82 = .ok (.iload_n 1, 1) := by decide +kernel
theorem dX1_readItem_83 : decode cX1_readItem 83 = .ok (.invokevirtual 117, 3) := by decide +kernel
theorem dX1_readItem_86 : decode cX1_readItem 86 = .ok (.goto 12, 3) := by decide +kernel
theorem dX1_readItem_89 : decode cX1_readItem 89 = .ok (.aload_n 0, 1) := by decide +kernel
theorem dX1_readItem_90 : decode cX1_readItem 90 = .ok (.iconst 1, 1) := by decide +kernel
theorem dX1_readItem_91 : decode cX1_readItem 91 = .ok (.aload_n 0, 1) := by decide +kernel
theorem dX1_readItem_92 : decode cX1_readItem 92 = .ok (.getfield 19, 3) := by decide +kernel
theorem dX1_readItem_95 : decode cX1_readItem 95 = .ok (.invokevirtual 62, 3) := by decide +kernel
theorem dX1_readItem_98 : decode cX1_readItem 98 = .ok (.return_, 1) := by decide +kernel
set_option maxRecDepth 20000 in
theorem ggX1_beginBlock_X1_readVersionNumber : GoodIn wsX1_beginBlock wsX1_readVersionNumber := goodIn_r _ [11, 12, 2, 13, 14, 15, 10, 16, 1, 17, 18, 19, 20, 21, 22, 3, 23, 24, 25, 26, 27, 28, 29, 30, 31, 32, 33, 34, 35, 36, 56, 57, 58, 59, 60, 61, 62, 63, 64, 65, 66, 67, 68, 69, 70, 71, 72, 73, 74] rfl (by decide +kernel)
set_option maxRecDepth 20000 in
theorem gX1_beginBlock_X1_readVersionNumber : GoodIn wsX1_beginBlock (wsV RX1 96 RX1 yX1_readVersionNumber wsX1_readVersionNumber) := goodIn_app (goodIn_r _ [7, 8, 9, 10] rfl (by decide +kernel)) ggX1_beginBlock_X1_readVersionNumber
set_option maxRecDepth 20000 in
theorem ggX1_beginBlock_X1_bringerAround : GoodIn wsX1_beginBlock wsX1_bringerAround := goodIn_r _ [40, 4, 5, 6, 56, 57, 58, 59, 60, 61, 62, 63, 64, 65] rfl (by decide +kernel)
set_option maxRecDepth 20000 in
theorem gX1_beginBlock_X1_bringerAround : GoodIn wsX1_beginBlock (wsV RX1 114 RX1 yX1_bringerAround wsX1_bringerAround) := goodIn_app (goodIn_r _ [37, 38, 39, 10] rfl (by decide +kernel)) ggX1_beginBlock_X1_bringerAround
set_option maxRecDepth 20000 in
theorem ggX1_beginBlock_X1_takersAround : GoodIn wsX1_beginBlock wsX1_takersAround := goodIn_r _ [44, 4, 5, 6, 45, 46, 34, 47, 56, 57, 58, 59, 60, 61, 62, 63, 64, 65] rfl (by decide +kernel)
set_option maxRecDepth 20000 in
theorem gX1_beginBlock_X1_takersAround : GoodIn wsX1_beginBlock (wsV RX1 120 RX1 yX1_takersAround wsX1_takersAround) := goodIn_app (goodIn_r _ [41, 42, 43, 10] rfl (by decide +kernel)) ggX1_beginBlock_X1_takersAround
set_option maxRecDepth 20000 in
theorem ggX1_beginBlock_X3_holds : GoodIn wsX1_beginBlock wsX3_holds := goodIn_r _ [50, 51, 46, 34, 47] rfl (by decide +kernel)
set_option maxRecDepth 20000 in
theorem gX1_beginBlock_X3_holds : GoodIn wsX1_beginBlock (va_wsS RX1 99 yX3_holds wsX3_holds) := goodIn_app (goodIn_r _ [48, 49, 34] rfl (by decide +kernel)) ggX1_beginBlock_X3_holds
set_option maxRecDepth 20000 in
theorem ggX1_beginBlock_X1_fail : GoodIn wsX1_beginBlock wsX1_fail := goodIn_r _ [29, 3, 30, 56, 57, 58, 59, 60, 61, 62, 63, 64, 65] rfl (by decide +kernel)
set_option maxRecDepth 20000 in
theorem gX1_beginBlock_X1_fail : GoodIn wsX1_beginBlock (wsV RX1 62 RX1 yX1_fail wsX1_fail) := goodIn_app (goodIn_r _ [26, 27, 28, 10] rfl (by decide +kernel)) ggX1_beginBlock_X1_fail
set_option maxRecDepth 20000 in
theorem ggX1_beginBlock_X1_expect : GoodIn wsX1_beginBlock wsX1_expect := goodIn_r _ [55, 1, 19, 20, 21, 10, 22, 17, 18, 3, 26, 27, 28, 29, 30, 56, 57, 58, 59, 60, 61, 62, 63, 64, 65] rfl (by decide +kernel)
set_option maxRecDepth 20000 in
theorem gX1_beginBlock_X1_expect : GoodIn wsX1_beginBlock (wsV RX1 86 RX1 yX1_expect wsX1_expect) := goodIn_app (goodIn_r _ [52, 53, 54, 10] rfl (by decide +kernel)) ggX1_beginBlock_X1_expect
theorem dX1_beginBlock_0 : decode cX1_beginBlock 0 = .ok (.aload_n 0, 1) := by decide +kernel
theorem dX1_beginBlock_1 : decode cX1_beginBlock 1 = .ok (.dup, 1) := by decide +kernel
theorem dX1_beginBlock_2 : decode cX1_beginBlock 2 = .ok (.getfield 19, 3) := by decide +kernel
theorem dX1_beginBlock_5 : decode cX1_beginBlock 5 = .ok (.iconst 1, 1) := by decide +kernel
theorem dX1_beginBlock_6 : decode cX1_beginBlock 6 = .ok (.iadd, 1) := by decide +kernel
theorem dX1_beginBlock_7 : decode cX1_beginBlock 7 = .ok (.putfield 19, 3) := by decide +kernel
theorem dX1_beginBlock_10 : decode cX1_beginBlock 10 = .ok (.aload_n 0, 1) := by decide +kernel
theorem dX1_beginBlock_11 : decode cX1_beginBlock 11 = .ok (.invokevirtual 96, 3) := by decide +kernel
theorem dX1_beginBlock_14 : decode cX1_beginBlock 14 = .ok (.istore_n 2, 1) := by decide +kernel
theorem dX1_beginBlock_15 : decode cX1_beginBlock 15 = .ok (.iload_n 2, 1) := by decide +kernel
theorem dX1_beginBlock_16 : decode cX1_beginBlock 16 = .ok (.aload_n 0, 1) := by decide +kernel
theorem dX1_beginBlock_17 : decode cX1_beginBlock 17 = .ok (.invokevirtual 114, 3) := by decide +kernel
theorem dX1_beginBlock_20 : decode cX1_beginBlock 20 = .ok (.if_icmp .le 18, 3) := by decide +kernel
theorem dX1_beginBlock_23 : decode cX1_beginBlock 23 = .ok (.iload_n 1, 1) := by decide +kernel
theorem dX1_beginBlock_24 : decode cX1_beginBlock 24 = .ok (.ifCond .ne 23, 3) := by decide +kernel
theorem dX1_beginBlock_27 : decode cX1_beginBlock 27 = .ok (.aload_n 0, 1) := by decide +kernel
theorem dX1_beginBlock_28 : decode cX1_beginBlock 28 = .ok (.invokevirtual 120, 3) := by decide +kernel
theorem dX1_beginBlock_31 : decode cX1_beginBlock 31 = .ok (.iload_n 2, 1) := by decide +kernel
theorem dX1_beginBlock_32 : decode cX1_beginBlock 32 = .ok (.invokestatic 99, 3) := by decide +kernel
theorem dX1_beginBlock_35 : decode cX1_beginBlock 35 = .ok (.ifCond .eq 12, 3) := by decide +kernel
theorem dX1_beginBlock_38 : decode cX1_beginBlock 38 = .ok (.aload_n 0, 1) := by decide +kernel
theorem dX1_beginBlock_39 : decode cX1_beginBlock 39 = .ok (.iconst 4, 1) := by decide +kernel
theorem dX1_beginBlock_40 : decode cX1_beginBlock 40 = .ok (.aload_n 0, 1) := by decide +kernel
theorem dX1_beginBlock_41 : decode cX1_beginBlock 41 = .ok (.getfield 22, 3) := by decide +kernel
theorem dX1_beginBlock_44 : decode cX1_beginBlock 44 = .ok (.invokevirtual 62, 3) := by decide +kernel
theorem dX1_beginBlock_47 : decode cX1_beginBlock 47 = .ok (.aload_n 0, 1) := by decide +kernel
theorem dX1_beginBlock_48 : decode cX1_beginBlock 48 = .ok (.bipush 40, 2) := by decide +kernel
theorem dX1_beginBlock_50 : decode cX1_beginBlock 50 = .ok (.invokevirtual 86, 3) := by decide +kernel
theorem dX1_beginBlock_53 : decode cX1_beginBlock 53 = .ok (.aload_n 0, 1) := by decide +kernel
theorem dX1_beginBlock_54 : decode cX1_beginBlock 54 = .ok (.getfield 25, 3) := by decide +kernel
theorem dX1_beginBlock_57 : decode cX1_beginBlock 57 = .ok (.ifCond .ne 42, 3) := by decide +kernel
theorem dX1_beginBlock_60 : decode cX1_beginBlock 60 = .ok (.aload_n 0, 1) := by decide +kernel
theorem dX1_beginBlock_61 : decode cX1_beginBlock 61 = .ok (.getfield 38, 3) := by decide +kernel
theorem dX1_beginBlock_64 : decode cX1_beginBlock 64 = .ok (.bipush 48, 2) := by decide +kernel
theorem dX1_beginBlock_66 : decode cX1_beginBlock 66 = .ok (.if_icmp .ge 33, 3) := by decide +kernel
theorem dX1_beginBlock_69 : decode cX1_beginBlock 69 = .ok (.aload_n 0, 1) := by decide +kernel
theorem dX1_beginBlock_70 : decode cX1_beginBlock 70 = .ok (.getfield 31, 3) := by decide +kernel
theorem dX1_beginBlock_73 : decode cX1_beginBlock 73 = .ok (.aload_n 0, 1) := by decide +kernel
theorem dX1_beginBlock_74 : decode cX1_beginBlock 74 = .ok (.getfield 38, 3) := by decide +kernel
theorem dX1_beginBlock_77 : decode cX1_beginBlock 77 = .ok (.iload_n 1, 1) := by decide +kernel
theorem dX1_beginBlock_78 : decode cX1_beginBlock 78 = .ok (.bastore, 1) := by decide +kernel
theorem dX1_beginBlock_79 : decode cX1_beginBlock 79 = .ok (.aload_n 0, 1) := by decide +kernel
theorem dX1_beginBlock_80 : decode cX1_beginBlock 80 = .ok (.getfield 35, 3) := by decide +kernel
theorem dX1_beginBlock_83 : decode cX1_beginBlock 83 = .ok (.aload_n 0, 1) := by decide +kernel
theorem dX1_beginBlock_84 : decode cX1_beginBlock 84 = .ok (.getfield 38, 3) := by decide +kernel
theorem dX1_beginBlock_87 : decode cX1_beginBlock 87 = .ok (.iload_n 2, 1) := by decide +kernel
theorem dX1_beginBlock_88 : decode cX1_beginBlock 88 = .ok (.iastore, 1) := by decide +kernel
theorem dX1_beginBlock_89 : decode cX1_beginBlock 89 = .ok (.aload_n 0, 1) := by decide +kernel
theorem dX1_beginBlock_90 : decode cX1_beginBlock 90 = .ok (.dup, 1) := by decide +kernel
theorem dX1_beginBlock_91 : decode cX1_beginBlock 91 = .ok (.getfield 38, 3) := by decide +kernel
theorem dX1_beginBlock_94 : decode cX1_beginBlock 94 = .ok (.iconst 1, 1) := by decide +kernel
theorem dX1_beginBlock_95 : decode cX1_beginBlock 95 = .ok (.iadd, 1) := by decide +kernel
theorem dX1_beginBlock_96 : decode cX1_beginBlock 96 = .ok (.putfield 38, 3) := by decide +kernel
theorem dX1_beginBlock_99 : decode cX1_beginBlock 99 = .ok (.return_, 1) := by decide +kernel
set_option maxRecDepth 20000 in
theorem ggX1_readOneLine_X1_bringerAround : GoodIn wsX1_readOneLine wsX1_bringerAround := goodIn_r _ [7, 8, 9, 10, 44, 45, 46, 47, 48, 49, 50, 51, 52, 53] rfl (by decide +kernel)
set_option maxRecDepth 20000 in
theorem gX1_readOneLine_X1_bringerAround : GoodIn wsX1_readOneLine (wsV RX1 114 RX1 yX1_bringerAround wsX1_bringerAround) := goodIn_app (goodIn_r _ [3, 4, 5, 6] rfl (by decide +kernel)) ggX1_readOneLine_X1_bringerAround
set_option maxRecDepth 20000 in
theorem ggX1_readOneLine_X1_takersAround : GoodIn wsX1_readOneLine wsX1_takersAround := goodIn_r _ [14, 8, 9, 10, 15, 16, 17, 18, 44, 45, 46, 47, 48, 49, 50, 51, 52, 53] rfl (by decide +kernel)
set_option maxRecDepth 20000 in
theorem gX1_readOneLine_X1_takersAround : GoodIn wsX1_readOneLine (wsV RX1 120 RX1 yX1_takersAround wsX1_takersAround) := goodIn_app (goodIn_r _ [11, 12, 13, 6] rfl (by decide +kernel)) ggX1_readOneLine_X1_takersAround
set_option maxRecDepth 20000 in
theorem ggX1_readOneLine_X1_fail : GoodIn wsX1_readOneLine wsX1_fail := goodIn_r _ [22, 23, 24, 44, 45, 46, 47, 48, 49, 50, 51, 52, 53] rfl (by decide +kernel)
set_option maxRecDepth 20000 in
theorem gX1_readOneLine_X1_fail : GoodIn wsX1_readOneLine (wsV RX1 62 RX1 yX1_fail wsX1_fail) := goodIn_app (goodIn_r _ [19, 20, 21, 6] rfl (by decide +kernel)) ggX1_readOneLine_X1_fail
set_option maxRecDepth 20000 in
theorem ggX1_readOneLine_X1_upTo : GoodIn wsX1_readOneLine wsX1_upTo := goodIn_r _ [27, 15, 16, 17, 18] rfl (by decide +kernel)
set_option maxRecDepth 20000 in
theorem gX1_readOneLine_X1_upTo : GoodIn wsX1_readOneLine (va_wsS RX1 126 yX1_upTo wsX1_upTo) := goodIn_app (goodIn_r _ [25, 26, 6] rfl (by decide +kernel)) ggX1_readOneLine_X1_upTo
set_option maxRecDepth 20000 in
theorem ggX1_readOneLine_X3_insertLine : GoodIn wsX1_readOneLine wsX3_insertLine := goodIn_r _ [31, 32, 33, 34, 35, 36, 37, 38, 17, 39, 40, 41, 42, 43, 54, 55, 56, 57, 58, 59, 60, 61, 62] rfl (by decide +kernel)
set_option maxRecDepth 20000 in
theorem gX1_readOneLine_X3_insertLine : GoodIn wsX1_readOneLine (wsV RX1 129 RX3 yX3_insertLine wsX3_insertLine) := goodIn_app (goodIn_r _ [28, 29, 30, 17] rfl (by decide +kernel)) ggX1_readOneLine_X3_insertLine
theorem dX1_readOneLine_0 : decode cX1_readOneLine 0 = .ok (.aload_n 0, 1) := by decide +kernel
theorem dX1_readOneLine_1 : decode cX1_readOneLine 1 = .ok (.invokevirtual 114, 3) := by decide +kernel
theorem dX1_readOneLine_4 : decode cX1_readOneLine 4 = .ok (.istore_n 2, 1) := by decide +kernel
theorem dX1_readOneLine_5 : decode cX1_readOneLine 5 = .ok (.aload_n 0, 1) := by decide +kernel
theorem dX1_readOneLine_6 : decode cX1_readOneLine 6 = .ok (.invokevirtual 120, 3) := by decide +kernel
theorem dX1_readOneLine_9 : decode cX1_readOneLine 9 = .ok (.istore_n 3, 1) := by decide +kernel
theorem dX1_readOneLine_10 : decode cX1_readOneLine 10 = .ok (.aload_n 0, 1) := by decide +kernel
theorem dX1_readOneLine_11 : decode cX1_readOneLine 11 = .ok (.getfield 44, 3) := by decide +kernel
theorem dX1_readOneLine_14 : decode cX1_readOneLine 14 = .ok (.getfield 123, 3) := by decide +kernel
theorem dX1_readOneLine_17 : decode cX1_readOneLine 17 = .ok (.bipush 120, 2) := by decide +kernel
theorem dX1_readOneLine_19 : decode cX1_readOneLine 19 = .ok (.if_icmp .lt 15, 3) := by decide +kernel
theorem dX1_readOneLine_22 : decode cX1_readOneLine 22 = .ok (.aload_n 0, 1) := by decide +kernel
theorem dX1_readOneLine_23 : decode cX1_readOneLine 23 = .ok (.iconst 3, 1) := by decide +kernel
theorem dX1_readOneLine_24 : decode cX1_readOneLine 24 = .ok (.aload_n 0, 1) := by decide +kernel
theorem dX1_readOneLine_25 : decode cX1_readOneLine 25 = .ok (.getfield 19, 3) := by decide +kernel
theorem dX1_readOneLine_28 : decode cX1_readOneLine 28 = .ok (.invokevirtual 62, 3) := by decide +kernel
theorem dX1_readOneLine_31 : decode cX1_readOneLine 31 = .ok (.goto 51, 3) := by decide +kernel
theorem dX1_readOneLine_34 : decode cX1_readOneLine 34 = .ok (.iload_n 3, 1) := by decide +kernel
theorem dX1_readOneLine_35 : decode cX1_readOneLine 35 = .ok (.iload_n 2, 1) := by decide +kernel
theorem dX1_readOneLine_36 : decode cX1_readOneLine 36 = .ok (.invokestatic 126, 3) := by decide +kernel
theorem dX1_readOneLine_39 : decode cX1_readOneLine 39 = .ok (.iand, 1) := by decide +kernel
theorem dX1_readOneLine_40 : decode cX1_readOneLine 40 = .ok (.ifCond .eq 15, 3) := by decide +kernel
theorem dX1_readOneLine_43 : decode cX1_readOneLine 43 = .ok (.aload_n 0, 1) := by decide +kernel
theorem dX1_readOneLine_44 : decode cX1_readOneLine 44 = .ok (.iconst 4, 1) := by decide +kernel
theorem dX1_readOneLine_45 : decode cX1_readOneLine 45 = .ok (.aload_n 0, 1) := by decide +kernel
theorem dX1_readOneLine_46 : decode cX1_readOneLine 46 = .ok (.getfield 19, 3) := by decide +kernel
theorem dX1_readOneLine_49 : decode cX1_readOneLine 49 = .ok (.invokevirtual 62, 3) := by decide +kernel
theorem dX1_readOneLine_52 : decode cX1_readOneLine 52 = .ok (.goto 30, 3) := by decide +kernel
theorem dX1_readOneLine_55 : decode cX1_readOneLine 55 = .ok (.aload_n 0, 1) := by decide +kernel
theorem dX1_readOneLine_56 : decode cX1_readOneLine 56 = .ok (.getfield 44, 3) := by decide +kernel
theorem dX1_readOneLine_59 : decode cX1_readOneLine 59 = .ok (.aload_n 0, 1) := by decide +kernel
theorem dX1_readOneLine_60 : decode cX1_readOneLine 60 = .ok (.getfield 44, 3) := by decide +kernel
theorem dX1_readOneLine_63 : decode cX1_readOneLine 63 = .ok (.getfield 123, 3) := by decide +kernel
theorem dX1_readOneLine_66 : decode cX1_readOneLine 66 = .ok (.iload_n 1, 1) := by decide +kernel
theorem dX1_readOneLine_67 : decode cX1_readOneLine 67 = .ok (.iload_n 2, 1) := by decide +kernel
theorem dX1_readOneLine_68 : decode cX1_readOneLine 68 = .ok (.iload_n 3, 1) := by decide +kernel
theorem dX1_readOneLine_69 : decode cX1_readOneLine 69 = .ok (.invokevirtual 129, 3) := by decide +kernel
theorem dX1_readOneLine_72 : decode cX1_readOneLine 72 = .ok (.aload_n 0, 1) := by decide +kernel
theorem dX1_readOneLine_73 : decode cX1_readOneLine 73 = .ok (.dup, 1) := by decide +kernel
theorem dX1_readOneLine_74 : decode cX1_readOneLine 74 = .ok (.getfield 19, 3) := by decide +kernel
theorem dX1_readOneLine_77 : decode cX1_readOneLine 77 = .ok (.iconst 1, 1) := by decide +kernel
theorem dX1_readOneLine_78 : decode cX1_readOneLine 78 = .ok (.iadd, 1) := by decide +kernel
theorem dX1_readOneLine_79 : decode cX1_readOneLine 79 = .ok (.putfield 19, 3) := by decide +kernel
theorem dX1_readOneLine_82 : decode cX1_readOneLine 82 = .ok (.return_, 1) := by decide +kernel
theorem dX1_bringerAround_0 : decode cX1_bringerAround 0 = .ok (.aload_n 0, 1) := by decide +kernel
theorem dX1_bringerAround_1 : decode cX1_bringerAround 1 = .ok (.getfield 38, 3) := by decide +kernel
theorem dX1_bringerAround_4 : decode cX1_bringerAround 4 = .ok (.iconst 1, 1) := by decide +kernel
theorem dX1_bringerAround_5 : decode cX1_bringerAround 5 = .ok (.isub, 1) := by decide +kernel
theorem dX1_bringerAround_6 : decode cX1_bringerAround 6 = .ok (.istore_n 1, 1) := by decide +kernel
theorem dX1_bringerAround_7 : decode cX1_bringerAround 7 = .ok (.iload_n 1, 1) := by decide +kernel
theorem dX1_bringerAround_8 : decode cX1_bringerAround 8 = .ok (.ifCond .lt 25, 3) := by decide +kernel
theorem dX1_bringerAround_11 : decode cX1_bringerAround 11 = .ok (.aload_n 0, 1) := by decide +kernel
theorem dX1_bringerAround_12 : decode cX1_bringerAround 12 = .ok (.getfield 31, 3) := by decide +kernel
theorem dX1_bringerAround_15 : decode cX1_bringerAround 15 = .ok (.iload_n 1, 1) := by decide +kernel
theorem dX1_bringerAround_16 : decode cX1_bringerAround 16 = .ok (.baload, 1) := by decide +kernel
theorem dX1_bringerAround_17 : decode cX1_bringerAround 17 = .ok (.ifCond .eq 10, 3) := by decide +kernel
theorem dX1_bringerAround_20 : decode cX1_bringerAround 20 = .ok (.aload_n 0, 1) := by decide +kernel
theorem dX1_bringerAround_21 : decode cX1_bringerAround 21 = .ok (.getfield 35, 3) := by decide +kernel
theorem dX1_bringerAround_24 : decode cX1_bringerAround 24 = .ok (.iload_n 1, 1) := by decide +kernel
theorem dX1_bringerAround_25 : decode cX1_bringerAround 25 = .ok (.iaload, 1) := by decide +kernel
theorem dX1_bringerAround_26 : decode cX1_bringerAround 26 = .ok (.ireturn, 1) := by decide +kernel
theorem dX1_bringerAround_27 : decode cX1_bringerAround 27 = .ok (.iinc 1 (-1), 3) := by decide +kernel
theorem dX1_bringerAround_30 : decode cX1_bringerAround 30 = .ok (.goto (-23), 3) := by decide +kernel
theorem dX1_bringerAround_33 : decode cX1_bringerAround 33 = .ok (.iconst (-1), 1) := by decide +kernel
theorem dX1_bringerAround_34 : decode cX1_bringerAround 34 = .ok (.ireturn, 1) := by decide +kernel
set_option maxRecDepth 20000 in
theorem ggX1_takersAround_X3_only : GoodIn wsX1_takersAround wsX3_only := goodIn_r _ [7] rfl (by decide +kernel)
set_option maxRecDepth 20000 in
theorem gX1_takersAround_X3_only : GoodIn wsX1_takersAround (va_wsS RX1 103 yX3_only wsX3_only) := goodIn_app (goodIn_r _ [4, 5, 6] rfl (by decide +kernel)) ggX1_takersAround_X3_only
theorem dX1_takersAround_0 : decode cX1_takersAround 0 = .ok (.iconst 0, 1) := by decide +kernel
theorem dX1_takersAround_1 : decode cX1_takersAround 1 = .ok (.istore_n 1, 1) := by decide +kernel
theorem dX1_takersAround_2 : decode cX1_takersAround 2 = .ok (.iconst 0, 1) := by decide +kernel
theorem dX1_takersAround_3 : decode cX1_takersAround 3 = .ok (.istore_n 2, 1) := by decide +kernel
theorem dX1_takersAround_4 : decode cX1_takersAround 4 = .ok (.iload_n 2, 1) := by decide +kernel
theorem dX1_takersAround_5 : decode cX1_takersAround 5 = .ok (.aload_n 0, 1) := by decide +kernel
theorem dX1_takersAround_6 : decode cX1_takersAround 6 = .ok (.getfield 38, 3) := by decide +kernel
theorem dX1_takersAround_9 : decode cX1_takersAround 9 = .ok (.if_icmp .ge 30, 3) := by decide +kernel
theorem dX1_takersAround_12 : decode cX1_takersAround 12 = .ok (.aload_n 0, 1) := by decide +kernel
theorem dX1_takersAround_13 : decode cX1_takersAround 13 = .ok (.getfield 31, 3) := by decide +kernel
theorem dX1_takersAround_16 : decode cX1_takersAround 16 = .ok (.iload_n 2, 1) := by decide +kernel
theorem dX1_takersAround_17 : decode cX1_takersAround 17 = .ok (.baload, 1) := by decide +kernel
theorem dX1_takersAround_18 : decode cX1_takersAround 18 = .ok (.ifCond .ne 15, 3) := by decide +kernel
theorem dX1_takersAround_21 : decode cX1_takersAround 21 = .ok (.iload_n 1, 1) := by decide +kernel
theorem dX1_takersAround_22 : decode cX1_takersAround 22 = .ok (.aload_n 0, 1) := by decide +kernel
theorem dX1_takersAround_23 : decode cX1_takersAround 23 = .ok (.getfield 35, 3) := by decide +kernel
theorem dX1_takersAround_26 : decode cX1_takersAround 26 = .ok (.iload_n 2, 1) := by decide +kernel
theorem dX1_takersAround_27 : decode cX1_takersAround 27 = .ok (.iaload, 1) := by decide +kernel
theorem dX1_takersAround_28 : decode cX1_takersAround 28 = .ok (.invokestatic 103, 3) := by decide +kernel
theorem dX1_takersAround_31 : decode cX1_takersAround 31 = .ok (.ior, 1) := by decide +kernel
theorem dX1_takersAround_32 : decode cX1_takersAround 32 = .ok (.istore_n 1, 1) := by decide +kernel
theorem dX1_takersAround_33 : decode cX1_takersAround 33 = .ok (.iinc 2 1, 3) := by decide +kernel
theorem dX1_takersAround_36 : decode cX1_takersAround 36 = .ok (.goto (-32), 3) := by decide +kernel
theorem dX1_takersAround_39 : decode cX1_takersAround 39 = .ok (.iload_n 1, 1) := by decide +kernel
theorem dX1_takersAround_40 : decode cX1_takersAround 40 = .ok (.ireturn, 1) := by decide +kernel
set_option maxRecDepth 20000 in
theorem ggX1_upTo_X3_only : GoodIn wsX1_upTo wsX3_only := goodIn_r _ [4] rfl (by decide +kernel)
set_option maxRecDepth 20000 in
theorem gX1_upTo_X3_only : GoodIn wsX1_upTo (va_wsS RX1 103 yX3_only wsX3_only) := goodIn_app (goodIn_r _ [1, 2, 3] rfl (by decide +kernel)) ggX1_upTo_X3_only
theorem dX1_upTo_0 : decode cX1_upTo 0 = .ok (.iload_n 0, 1) := by decide +kernel
theorem dX1_upTo_1 : decode cX1_upTo 1 = .ok (.invokestatic 103, 3) := by decide +kernel
theorem dX1_upTo_4 : decode cX1_upTo 4 = .ok (.iconst 1, 1) := by decide +kernel
theorem dX1_upTo_5 : decode cX1_upTo 5 = .ok (.ishl, 1) := by decide +kernel
theorem dX1_upTo_6 : decode cX1_upTo 6 = .ok (.iconst 1, 1) := by decide +kernel
theorem dX1_upTo_7 : decode cX1_upTo 7 = .ok (.isub, 1) := by decide +kernel
theorem dX1_upTo_8 : decode cX1_upTo 8 = .ok (.ireturn, 1) := by decide +kernel
theorem dX2_init_0 : decode cX2_init 0 = .ok (.aload_n 0, 1) := by decide +kernel
theorem dX2_init_1 : decode cX2_init 1 = .ok (.invokespecial 3, 3) := by decide +kernel
theorem dX2_init_4 : decode cX2_init 4 = .ok (.aload_n 0, 1) := by decide +kernel
theorem dX2_init_5 : decode cX2_init 5 = .ok (.iconst 4, 1) := by decide +kernel
theorem dX2_init_6 : decode cX2_init 6 = .ok (.bipush 40, 2) := by decide +kernel
theorem dX2_init_8 : decode cX2_init 8 = .ok (.multianewarray 9 2, 4) := by decide +kernel
theorem dX2_init_12 : decode cX2_init 12 = .ok (.putfield 11, 3) := by decide +kernel
theorem dX2_init_15 : decode cX2_init 15 = .ok (.aload_n 0, 1) := by decide +kernel
theorem dX2_init_16 : decode cX2_init 16 = .ok (.iconst 4, 1) := by decide +kernel
theorem dX2_init_17 : decode cX2_init 17 = .ok (.newarray .int, 2) := by decide +kernel
theorem dX2_init_19 : decode cX2_init 19 = .ok (.putfield 16, 3) := by decide +kernel
theorem dX2_init_22 : decode cX2_init 22 = .ok (.iconst 0, 1) := by decide +kernel
theorem dX2_init_23 : decode cX2_init 23 = .ok (.istore_n 1, 1) := by decide +kernel
theorem dX2_init_24 : decode cX2_init 24 = .ok (.iload_n 1, 1) := by decide +kernel
theorem dX2_init_25 : decode cX2_init 25 = .ok (.iconst 4, 1) := by decide +kernel
theorem dX2_init_26 : decode cX2_init 26 = .ok (.if_icmp .ge 16, 3) := by decide +kernel
theorem dX2_init_29 : decode cX2_init 29 = .ok (.aload_n 0, 1) := by decide +kernel
theorem dX2_init_30 : decode cX2_init 30 = .ok (.getfield 16, 3) := by decide +kernel
theorem dX2_init_33 : decode cX2_init 33 = .ok (.iload_n 1, 1) := by decide +kernel
theorem dX2_init_34 : decode cX2_init 34 = .ok (.iconst (-1), 1) := by decide +kernel
theorem dX2_init_35 : decode cX2_init 35 = .ok (.iastore, 1) := by decide +kernel
theorem dX2_init_36 : decode cX2_init 36 = .ok (.iinc 1 1, 3) := by decide +kernel
theorem dX2_init_39 : decode cX2_init 39 = .ok (.goto (-15), 3) := by decide +kernel
theorem dX2_init_42 : decode cX2_init 42 = .ok (.return_, 1) := by decide +kernel
theorem dX2_hasNumber_0 : decode cX2_hasNumber 0 = .ok (.iload_n 1, 1) := by decide +kernel
theorem dX2_hasNumber_1 : decode cX2_hasNumber 1 = .ok (.ifCond .lt 12, 3) := by decide +kernel
theorem dX2_hasNumber_4 : decode cX2_hasNumber 4 = .ok (.iload_n 1, 1) := by decide +kernel
theorem dX2_hasNumber_5 : decode cX2_hasNumber 5 = .ok (.iconst 4, 1) := by decide +kernel
theorem dX2_hasNumber_6 : decode cX2_hasNumber 6 = .ok (.if_icmp .ge 7, 3) := by decide +kernel
theorem dX2_hasNumber_9 : decode cX2_hasNumber 9 = .ok (.iconst 1, 1) := by decide +kernel
theorem dX2_hasNumber_10 : decode cX2_hasNumber 10 = .ok (.goto 4, 3) := by decide +kernel
theorem dX2_hasNumber_13 : decode cX2_hasNumber 13 = .ok (.iconst 0, 1) := by decide +kernel
theorem dX2_hasNumber_14 : decode cX2_hasNumber 14 = .ok (.ireturn, 1) := by decide +kernel
theorem dX2_countThere_0 : decode cX2_countThere 0 = .ok (.iconst 0, 1) := by decide +kernel
theorem dX2_countThere_1 : decode cX2_countThere 1 = .ok (.istore_n 1, 1) := by decide +kernel
theorem dX2_countThere_2 : decode cX2_countThere 2 = .ok (.iconst 0, 1) := by decide +kernel
theorem dX2_countThere_3 : decode cX2_countThere 3 = .ok (.istore_n 2, 1) := by decide +kernel
theorem dX2_countThere_4 : decode cX2_countThere 4 = .ok (.iload_n 2, 1) := by decide +kernel
theorem dX2_countThere_5 : decode cX2_countThere 5 = .ok (.iconst 4, 1) := by decide +kernel
theorem dX2_countThere_6 : decode cX2_countThere 6 = .ok (.if_icmp .ge 22, 3) := by decide +kernel
theorem dX2_countThere_9 : decode cX2_countThere 9 = .ok (.aload_n 0, 1) := by decide +kernel
theorem dX2_countThere_10 : decode cX2_countThere 10 = .ok (.getfield 16, 3) := by decide +kernel
theorem dX2_countThere_13 : decode cX2_countThere 13 = .ok (.iload_n 2, 1) := by decide +kernel
theorem dX2_countThere_14 : decode cX2_countThere 14 = .ok (.iaload, 1) := by decide +kernel
theorem dX2_countThere_15 : decode cX2_countThere 15 = .ok (.iconst (-1), 1) := by decide +kernel
theorem dX2_countThere_16 : decode cX2_countThere 16 = .ok (.if_icmp .eq 6, 3) := by decide +kernel
theorem dX2_countThere_19 : decode cX2_countThere 19 = .ok (.iinc 1 1, 3) := by decide +kernel
theorem dX2_countThere_22 : decode cX2_countThere 22 = .ok (.iinc 2 1, 3) := by decide +kernel
theorem dX2_countThere_25 : decode cX2_countThere 25 = .ok (.goto (-21), 3) := by decide +kernel
theorem dX2_countThere_28 : decode cX2_countThere 28 = .ok (.iload_n 1, 1) := by decide +kernel
theorem dX2_countThere_29 : decode cX2_countThere 29 = .ok (.ireturn, 1) := by decide +kernel
theorem dX2_lay_0 : decode cX2_lay 0 = .ok (.iconst 0, 1) := by decide +kernel
theorem dX2_lay_1 : decode cX2_lay 1 = .ok (.istore_n 3, 1) := by decide +kernel
theorem dX2_lay_2 : decode cX2_lay 2 = .ok (.iload_n 3, 1) := by decide +kernel
theorem dX2_lay_3 : decode cX2_lay 3 = .ok (.bipush 40, 2) := by decide +kernel
theorem dX2_lay_5 : decode cX2_lay 5 = .ok (.if_icmp .ge 18, 3) := by decide +kernel
theorem dX2_lay_8 : decode cX2_lay 8 = .ok (.aload_n 0, 1) := by decide +kernel
theorem dX2_lay_9 : decode cX2_lay 9 = .ok (.getfield 11, 3) := by decide +kernel
theorem dX2_lay_12 : decode cX2_lay 12 = .ok (.iload_n 1, 1) := by decide +kernel
theorem dX2_lay_13 : decode cX2_lay 13 = .ok (.aaload, 1) := by decide +kernel
theorem dX2_lay_14 : decode cX2_lay 14 = .ok (.iload_n 3, 1) := by decide +kernel
theorem dX2_lay_15 : decode cX2_lay 15 = .ok (.lconst 0, 1) := by decide +kernel
theorem dX2_lay_16 : decode cX2_lay 16 = .ok (.lastore, 1) := by decide +kernel
theorem dX2_lay_17 : decode cX2_lay 17 = .ok (.iinc 3 1, 3) := by decide +kernel
theorem dX2_lay_20 : decode cX2_lay 20 = .ok (.goto (-18), 3) := by decide +kernel
theorem dX2_lay_23 : decode cX2_lay 23 = .ok (.aload_n 0, 1) := by decide +kernel
theorem dX2_lay_24 : decode cX2_lay 24 = .ok (.getfield 16, 3) := by decide +kernel
theorem dX2_lay_27 : decode cX2_lay 27 = .ok (.iload_n 1, 1) := by decide +kernel
theorem dX2_lay_28 : decode cX2_lay 28 = .ok (.iload_n 2, 1) := by decide +kernel
theorem dX2_lay_29 : decode cX2_lay 29 = .ok (.iastore, 1) := by decide +kernel
theorem dX2_lay_30 : decode cX2_lay 30 = .ok (.return_, 1) := by decide +kernel
set_option maxRecDepth 20000 in
theorem ggX2_findWrong_X2_hasNumber : GoodIn wsX2_findWrong wsX2_hasNumber := goodIn_r _ [9] rfl (by decide +kernel)
set_option maxRecDepth 20000 in
theorem gX2_findWrong_X2_hasNumber : GoodIn wsX2_findWrong (wsV RX2 20 RX2 yX2_hasNumber wsX2_hasNumber) := goodIn_app (goodIn_r _ [5, 6, 7, 8] rfl (by decide +kernel)) ggX2_findWrong_X2_hasNumber
theorem dX2_findWrong_0 : decode cX2_findWrong 0 = .ok (.aload_n 0, 1) := by decide +kernel
theorem dX2_findWrong_1 : decode cX2_findWrong 1 = .ok (.iload_n 1, 1) := by decide +kernel
theorem dX2_findWrong_2 : decode cX2_findWrong 2 = .ok (.invokevirtual 20, 3) := by decide +kernel
theorem dX2_findWrong_5 : decode cX2_findWrong 5 = .ok (.ifCond .ne 6, 3) := by decide +kernel
theorem dX2_findWrong_8 : decode cX2_findWrong 8 = .ok (.ldc 24, 2) := by decide +kernel
theorem dX2_findWrong_10 : decode cX2_findWrong 10 = .ok (.ireturn, 1) := by decide +kernel
theorem dX2_findWrong_11 : decode cX2_findWrong 11 = .ok (.aload_n 0, 1) := by decide +kernel
theorem dX2_findWrong_12 : decode cX2_findWrong 12 = .ok (.getfield 16, 3) := by decide +kernel
theorem dX2_findWrong_15 : decode cX2_findWrong 15 = .ok (.iload_n 1, 1) := by decide +kernel
theorem dX2_findWrong_16 : decode cX2_findWrong 16 = .ok (.iaload, 1) := by decide +kernel
theorem dX2_findWrong_17 : decode cX2_findWrong 17 = .ok (.iconst (-1), 1) := by decide +kernel
theorem dX2_findWrong_18 : decode cX2_findWrong 18 = .ok (.if_icmp .ne 6, 3) := by decide +kernel
theorem dX2_findWrong_21 : decode cX2_findWrong 21 = .ok (.ldc 25, 2) := by decide +kernel
theorem dX2_findWrong_23 : decode cX2_findWrong 23 = .ok (.ireturn, 1) := by decide +kernel
theorem dX2_findWrong_24 : decode cX2_findWrong 24 = .ok (.iload_n 2, 1) := by decide +kernel
theorem dX2_findWrong_25 : decode cX2_findWrong 25 = .ok (.ifCond .lt 29, 3) := by decide +kernel
theorem dX2_findWrong_28 : decode cX2_findWrong 28 = .ok (.iload_n 3, 1) := by decide +kernel
theorem dX2_findWrong_29 : decode cX2_findWrong 29 = .ok (.ifCond .lt 25, 3) := by decide +kernel
theorem dX2_findWrong_32 : decode cX2_findWrong 32 = .ok (.iload_n 2, 1) := by decide +kernel
theorem dX2_findWrong_33 : decode cX2_findWrong 33 = .ok (.aload_n 0, 1) := by decide +kernel
theorem dX2_findWrong_34 : decode cX2_findWrong 34 = .ok (.getfield 16, 3) := by decide +kernel
theorem dX2_findWrong_37 : decode cX2_findWrong 37 = .ok (.iload_n 1, 1) := by decide +kernel
theorem dX2_findWrong_38 : decode cX2_findWrong 38 = .ok (.iaload, 1) := by decide +kernel
theorem dX2_findWrong_39 : decode cX2_findWrong 39 = .ok (.if_icmp .gt 15, 3) := by decide +kernel
theorem dX2_findWrong_42 : decode cX2_findWrong 42 = .ok (.iload_n 3, 1) := by decide +kernel
theorem dX2_findWrong_43 : decode cX2_findWrong 43 = .ok (.aload_n 0, 1) := by decide +kernel
theorem dX2_findWrong_44 : decode cX2_findWrong 44 = .ok (.getfield 16, 3) := by decide +kernel
theorem dX2_findWrong_47 : decode cX2_findWrong 47 = .ok (.iload_n 1, 1) := by decide +kernel
theorem dX2_findWrong_48 : decode cX2_findWrong 48 = .ok (.iaload, 1) := by decide +kernel
theorem dX2_findWrong_49 : decode cX2_findWrong 49 = .ok (.iload_n 2, 1) := by decide +kernel
theorem dX2_findWrong_50 : decode cX2_findWrong 50 = .ok (.isub, 1) := by decide +kernel
theorem dX2_findWrong_51 : decode cX2_findWrong 51 = .ok (.if_icmp .le 6, 3) := by decide +kernel
theorem dX2_findWrong_54 : decode cX2_findWrong 54 = .ok (.ldc 26, 2) := by decide +kernel
theorem dX2_findWrong_56 : decode cX2_findWrong 56 = .ok (.ireturn, 1) := by decide +kernel
theorem dX2_findWrong_57 : decode cX2_findWrong 57 = .ok (.iconst 0, 1) := by decide +kernel
theorem dX2_findWrong_58 : decode cX2_findWrong 58 = .ok (.ireturn, 1) := by decide +kernel
theorem dX3_init_0 : decode cX3_init 0 = .ok (.aload_n 0, 1) := by decide +kernel
theorem dX3_init_1 : decode cX3_init 1 = .ok (.invokespecial 3, 3) := by decide +kernel
theorem dX3_init_4 : decode cX3_init 4 = .ok (.aload_n 0, 1) := by decide +kernel
theorem dX3_init_5 : decode cX3_init 5 = .ok (.iconst 0, 1) := by decide +kernel
theorem dX3_init_6 : decode cX3_init 6 = .ok (.putfield 9, 3) := by decide +kernel
theorem dX3_init_9 : decode cX3_init 9 = .ok (.aload_n 0, 1) := by decide +kernel
theorem dX3_init_10 : decode cX3_init 10 = .ok (.bipush 24, 2) := by decide +kernel
theorem dX3_init_12 : decode cX3_init 12 = .ok (.newarray .int, 2) := by decide +kernel
theorem dX3_init_14 : decode cX3_init 14 = .ok (.putfield 15, 3) := by decide +kernel
theorem dX3_init_17 : decode cX3_init 17 = .ok (.aload_n 0, 1) := by decide +kernel
theorem dX3_init_18 : decode cX3_init 18 = .ok (.bipush 24, 2) := by decide +kernel
theorem dX3_init_20 : decode cX3_init 20 = .ok (.newarray .int, 2) := by decide +kernel
theorem dX3_init_22 : decode cX3_init 22 = .ok (.putfield 19, 3) := by decide +kernel
theorem dX3_init_25 : decode cX3_init 25 = .ok (.aload_n 0, 1) := by decide +kernel
theorem dX3_init_26 : decode cX3_init 26 = .ok (.bipush 24, 2) := by decide +kernel
theorem dX3_init_28 : decode cX3_init 28 = .ok (.newarray .int, 2) := by decide +kernel
theorem dX3_init_30 : decode cX3_init 30 = .ok (.putfield 22, 3) := by decide +kernel
theorem dX3_init_33 : decode cX3_init 33 = .ok (.aload_n 0, 1) := by decide +kernel
theorem dX3_init_34 : decode cX3_init 34 = .ok (.bipush 24, 2) := by decide +kernel
theorem dX3_init_36 : decode cX3_init 36 = .ok (.newarray .int, 2) := by decide +kernel
theorem dX3_init_38 : decode cX3_init 38 = .ok (.putfield 25, 3) := by decide +kernel
theorem dX3_init_41 : decode cX3_init 41 = .ok (.aload_n 0, 1) := by decide +kernel
theorem dX3_init_42 : decode cX3_init 42 = .ok (.iconst 0, 1) := by decide +kernel
theorem dX3_init_43 : decode cX3_init 43 = .ok (.putfield 28, 3) := by decide +kernel
theorem dX3_init_46 : decode cX3_init 46 = .ok (.aload_n 0, 1) := by decide +kernel
theorem dX3_init_47 : decode cX3_init 47 = .ok (.bipush 120, 2) := by decide +kernel
theorem dX3_init_49 : decode cX3_init 49 = .ok (.newarray .int, 2) := by decide +kernel
theorem dX3_init_51 : decode cX3_init 51 = .ok (.putfield 31, 3) := by decide +kernel
theorem dX3_init_54 : decode cX3_init 54 = .ok (.aload_n 0, 1) := by decide +kernel
theorem dX3_init_55 : decode cX3_init 55 = .ok (.bipush 120, 2) := by decide +kernel
theorem dX3_init_57 : decode cX3_init 57 = .ok (.newarray .int, 2) := by decide +kernel
theorem dX3_init_59 : decode cX3_init 59 = .ok (.putfield 34, 3) := by decide +kernel
theorem dX3_init_62 : decode cX3_init 62 = .ok (.aload_n 0, 1) := by decide +kernel
theorem dX3_init_63 : decode cX3_init 63 = .ok (.bipush 120, 2) := by decide +kernel
theorem dX3_init_65 : decode cX3_init 65 = .ok (.newarray .int, 2) := by decide +kernel
theorem dX3_init_67 : decode cX3_init 67 = .ok (.putfield 37, 3) := by decide +kernel
theorem dX3_init_70 : decode cX3_init 70 = .ok (.return_, 1) := by decide +kernel
theorem dX3_only_0 : decode cX3_only 0 = .ok (.iload_n 0, 1) := by decide +kernel
theorem dX3_only_1 : decode cX3_only 1 = .ok (.ifCond .lt 15, 3) := by decide +kernel
theorem dX3_only_4 : decode cX3_only 4 = .ok (.iload_n 0, 1) := by decide +kernel
theorem dX3_only_5 : decode cX3_only 5 = .ok (.bipush 24, 2) := by decide +kernel
theorem dX3_only_7 : decode cX3_only 7 = .ok (.if_icmp .ge 9, 3) := by decide +kernel
theorem dX3_only_10 : decode cX3_only 10 = .ok (.iconst 1, 1) := by decide +kernel
theorem dX3_only_11 : decode cX3_only 11 = .ok (.iload_n 0, 1) := by decide +kernel
theorem dX3_only_12 : decode cX3_only 12 = .ok (.ishl, 1) := by decide +kernel
theorem dX3_only_13 : decode cX3_only 13 = .ok (.goto 4, 3) := by decide +kernel
theorem dX3_only_16 : decode cX3_only 16 = .ok (.iconst 0, 1) := by decide +kernel
theorem dX3_only_17 : decode cX3_only 17 = .ok (.ireturn, 1) := by decide +kernel
set_option maxRecDepth 20000 in
theorem ggX3_holds_X3_only : GoodIn wsX3_holds wsX3_only := goodIn_r _ [4] rfl (by decide +kernel)
set_option maxRecDepth 20000 in
theorem gX3_holds_X3_only : GoodIn wsX3_holds (va_wsS RX3 40 yX3_only wsX3_only) := goodIn_app (goodIn_r _ [1, 2, 3] rfl (by decide +kernel)) ggX3_holds_X3_only
theorem dX3_holds_0 : decode cX3_holds 0 = .ok (.iload_n 0, 1) := by decide +kernel
theorem dX3_holds_1 : decode cX3_holds 1 = .ok (.iload_n 1, 1) := by decide +kernel
theorem dX3_holds_2 : decode cX3_holds 2 = .ok (.invokestatic 40, 3) := by decide +kernel
theorem dX3_holds_5 : decode cX3_holds 5 = .ok (.iand, 1) := by decide +kernel
theorem dX3_holds_6 : decode cX3_holds 6 = .ok (.ifCond .eq 7, 3) := by decide +kernel
theorem dX3_holds_9 : decode cX3_holds 9 = .ok (.iconst 1, 1) := by decide +kernel
theorem dX3_holds_10 : decode cX3_holds 10 = .ok (.goto 4, 3) := by decide +kernel
theorem dX3_holds_13 : decode cX3_holds 13 = .ok (.iconst 0, 1) := by decide +kernel
theorem dX3_holds_14 : decode cX3_holds 14 = .ok (.ireturn, 1) := by decide +kernel
theorem dX3_makeEmpty_0 : decode cX3_makeEmpty 0 = .ok (.aload_n 0, 1) := by decide +kernel
theorem dX3_makeEmpty_1 : decode cX3_makeEmpty 1 = .ok (.iconst 0, 1) := by decide +kernel
theorem dX3_makeEmpty_2 : decode cX3_makeEmpty 2 = .ok (.putfield 9, 3) := by decide +kernel
theorem dX3_makeEmpty_5 : decode cX3_makeEmpty 5 = .ok (.aload_n 0, 1) := by decide +kernel
theorem dX3_makeEmpty_6 : decode cX3_makeEmpty 6 = .ok (.iconst 0, 1) := by decide +kernel
theorem dX3_makeEmpty_7 : decode cX3_makeEmpty 7 = .ok (.putfield 28, 3) := by decide +kernel
theorem dX3_makeEmpty_10 : decode cX3_makeEmpty 10 = .ok (.return_, 1) := by decide +kernel
theorem dX3_become_0 : decode cX3_become 0 = .ok (.aload_n 0, 1) := by decide +kernel
theorem dX3_become_1 : decode cX3_become 1 = .ok (.aload_n 1, 1) := by decide +kernel
theorem dX3_become_2 : decode cX3_become 2 = .ok (.getfield 9, 3) := by decide +kernel
theorem dX3_become_5 : decode cX3_become 5 = .ok (.putfield 9, 3) := by decide +kernel
theorem dX3_become_8 : decode cX3_become 8 = .ok (.aload_n 1, 1) := by decide +kernel
theorem dX3_become_9 : decode cX3_become 9 = .ok (.getfield 15, 3) := by decide +kernel
theorem dX3_become_12 : decode cX3_become 12 = .ok (.iconst 0, 1) := by decide +kernel
theorem dX3_become_13 : decode cX3_become 13 = .ok (.aload_n 0, 1) := by decide +kernel
theorem dX3_become_14 : decode cX3_become 14 = .ok (.getfield 15, 3) := by decide +kernel
theorem dX3_become_17 : decode cX3_become 17 = .ok (.iconst 0, 1) := by decide +kernel
theorem dX3_become_18 : decode cX3_become 18 = .ok (.bipush 24, 2) := by decide +kernel
theorem dX3_become_20 : decode cX3_become 20 = .ok (.invokestatic 44, 3) := by decide +kernel
theorem dX3_become_23 : decode cX3_become 23 = .ok (.aload_n 1, 1) := by decide +kernel
theorem dX3_become_24 : decode cX3_become 24 = .ok (.getfield 19, 3) := by decide +kernel
theorem dX3_become_27 : decode cX3_become 27 = .ok (.iconst 0, 1) := by decide +kernel
theorem dX3_become_28 : decode cX3_become 28 = .ok (.aload_n 0, 1) := by decide +kernel
theorem dX3_become_29 : decode cX3_become 29 = .ok (.getfield 19, 3) := by decide +kernel
theorem dX3_become_32 : decode cX3_become 32 = .ok (.iconst 0, 1) := by decide +kernel
theorem dX3_become_33 : decode cX3_become 33 = .ok (.bipush 24, 2) := by decide +kernel
theorem dX3_become_35 : decode cX3_become 35 = .ok (.invokestatic 44, 3) := by decide +kernel
theorem dX3_become_38 : decode cX3_become 38 = .ok (.aload_n 1, 1) := by decide +kernel
theorem dX3_become_39 : decode cX3_become 39 = .ok (.getfield 22, 3) := by decide +kernel
theorem dX3_become_42 : decode cX3_become 42 = .ok (.iconst 0, 1) := by decide +kernel
theorem dX3_become_43 : decode cX3_become 43 = .ok (.aload_n 0, 1) := by decide +kernel
theorem dX3_become_44 : decode cX3_become 44 = .ok (.getfield 22, 3) := by decide +kernel
theorem dX3_become_47 : decode cX3_become 47 = .ok (.iconst 0, 1) := by decide +kernel
theorem dX3_become_48 : decode cX3_become 48 = .ok (.bipush 24, 2) := by decide +kernel
theorem dX3_become_50 : decode cX3_become 50 = .ok (.invokestatic 44, 3) := by decide +kernel
theorem dX3_become_53 : decode cX3_become 53 = .ok (.aload_n 1, 1) := by decide +kernel
theorem dX3_become_54 : decode cX3_become 54 = .ok (.getfield 25, 3) := by decide +kernel
theorem dX3_become_57 : decode cX3_become 57 = .ok (.iconst 0, 1) := by decide +kernel
theorem dX3_become_58 : decode cX3_become 58 = .ok (.aload_n 0, 1) := by decide +kernel
theorem dX3_become_59 : decode cX3_become 59 = .ok (.getfield 25, 3) := by decide +kernel
theorem dX3_become_62 : decode cX3_become 62 = .ok (.iconst 0, 1) := by decide +kernel
theorem dX3_become_63 : decode cX3_become 63 = .ok (.bipush 24, 2) := by decide +kernel
theorem dX3_become_65 : decode cX3_become 65 = .ok (.invokestatic 44, 3) := by decide +kernel
theorem dX3_become_68 : decode cX3_become 68 = .ok (.aload_n 0, 1) := by decide +kernel
theorem dX3_become_69 : decode cX3_become 69 = .ok (.aload_n 1, 1) := by decide +kernel
theorem dX3_become_70 : decode cX3_become 70 = .ok (.getfield 28, 3) := by decide +kernel
theorem dX3_become_73 : decode cX3_become 73 = .ok (.putfield 28, 3) := by decide +kernel
theorem dX3_become_76 : decode cX3_become 76 = .ok (.aload_n 1, 1) := by decide +kernel
theorem dX3_become_77 : decode cX3_become 77 = .ok (.getfield 31, 3) := by decide +kernel
theorem dX3_become_80 : decode cX3_become 80 = .ok (.iconst 0, 1) := by decide +kernel
theorem dX3_become_81 : decode cX3_become 81 = .ok (.aload_n 0, 1) := by decide +kernel
theorem dX3_become_82 : decode cX3_become 82 = .ok (.getfield 31, 3) := by decide +kernel
theorem dX3_become_85 : decode cX3_become 85 = .ok (.iconst 0, 1) := by decide +kernel
theorem dX3_become_86 : decode cX3_become 86 = .ok (.bipush 120, 2) := by decide +kernel
theorem dX3_become_88 : decode cX3_become 88 = .ok (.invokestatic 44, 3) := by decide +kernel
theorem dX3_become_91 : decode cX3_become 91 = .ok (.aload_n 1, 1) := by decide +kernel
theorem dX3_become_92 : decode cX3_become 92 = .ok (.getfield 34, 3) := by decide +kernel
theorem dX3_become_95 : decode cX3_become 95 = .ok (.iconst 0, 1) := by decide +kernel
theorem dX3_become_96 : decode cX3_become 96 = .ok (.aload_n 0, 1) := by decide +kernel
theorem dX3_become_97 : decode cX3_become 97 = .ok (.getfield 34, 3) := by decide +kernel
theorem dX3_become_100 : decode cX3_become 100 = .ok (.iconst 0, 1) := by decide +kernel
theorem dX3_become_101 : decode cX3_become 101 = .ok (.bipush 120, 2) := by decide +kernel
theorem dX3_become_103 : decode cX3_become 103 = .ok (.invokestatic 44, 3) := by decide +kernel
theorem dX3_become_106 : decode cX3_become 106 = .ok (.aload_n 1, 1) := by decide +kernel
theorem dX3_become_107 : decode cX3_become 107 = .ok (.getfield 37, 3) := by decide +kernel
theorem dX3_become_110 : decode cX3_become 110 = .ok (.iconst 0, 1) := by decide +kernel
theorem dX3_become_111 : decode cX3_become 111 = .ok (.aload_n 0, 1) := by decide +kernel
theorem dX3_become_112 : decode cX3_become 112 = .ok (.getfield 37, 3) := by decide +kernel
theorem dX3_become_115 : decode cX3_become 115 = .ok (.iconst 0, 1) := by decide +kernel
theorem dX3_become_116 : decode cX3_become 116 = .ok (.bipush 120, 2) := by decide +kernel
theorem dX3_become_118 : decode cX3_become 118 = .ok (.invokestatic 44, 3) := by decide +kernel
theorem dX3_become_121 : decode cX3_become 121 = .ok (.return_, 1) := by decide +kernel
theorem dX3_hasVersion_0 : decode cX3_hasVersion 0 = .ok (.iload_n 1, 1) := by decide +kernel
theorem dX3_hasVersion_1 : decode cX3_hasVersion 1 = .ok (.ifCond .lt 15, 3) := by decide +kernel
theorem dX3_hasVersion_4 : decode cX3_hasVersion 4 = .ok (.iload_n 1, 1) := by decide +kernel
theorem dX3_hasVersion_5 : decode cX3_hasVersion 5 = .ok (.aload_n 0, 1) := by decide +kernel
theorem dX3_hasVersion_6 : decode cX3_hasVersion 6 = .ok (.getfield 9, 3) := by decide +kernel
theorem dX3_hasVersion_9 : decode cX3_hasVersion 9 = .ok (.if_icmp .ge 7, 3) := by decide +kernel
theorem dX3_hasVersion_12 : decode cX3_hasVersion 12 = .ok (.iconst 1, 1) := by decide +kernel
theorem dX3_hasVersion_13 : decode cX3_hasVersion 13 = .ok (.goto 4, 3) := by decide +kernel
theorem dX3_hasVersion_16 : decode cX3_hasVersion 16 = .ok (.iconst 0, 1) := by decide +kernel
theorem dX3_hasVersion_17 : decode cX3_hasVersion 17 = .ok (.ireturn, 1) := by decide +kernel
theorem dX3_hasLine_0 : decode cX3_hasLine 0 = .ok (.iload_n 1, 1) := by decide +kernel
theorem dX3_hasLine_1 : decode cX3_hasLine 1 = .ok (.ifCond .lt 15, 3) := by decide +kernel
theorem dX3_hasLine_4 : decode cX3_hasLine 4 = .ok (.iload_n 1, 1) := by decide +kernel
theorem dX3_hasLine_5 : decode cX3_hasLine 5 = .ok (.aload_n 0, 1) := by decide +kernel
theorem dX3_hasLine_6 : decode cX3_hasLine 6 = .ok (.getfield 28, 3) := by decide +kernel
theorem dX3_hasLine_9 : decode cX3_hasLine 9 = .ok (.if_icmp .ge 7, 3) := by decide +kernel
theorem dX3_hasLine_12 : decode cX3_hasLine 12 = .ok (.iconst 1, 1) := by decide +kernel
theorem dX3_hasLine_13 : decode cX3_hasLine 13 = .ok (.goto 4, 3) := by decide +kernel
theorem dX3_hasLine_16 : decode cX3_hasLine 16 = .ok (.iconst 0, 1) := by decide +kernel
theorem dX3_hasLine_17 : decode cX3_hasLine 17 = .ok (.ireturn, 1) := by decide +kernel
theorem dX3_parentOf_0 : decode cX3_parentOf 0 = .ok (.iload_n 1, 1) := by decide +kernel
theorem dX3_parentOf_1 : decode cX3_parentOf 1 = .ok (.ifCond .lt 18, 3) := by decide +kernel
theorem dX3_parentOf_4 : decode cX3_parentOf 4 = .ok (.iload_n 1, 1) := by decide +kernel
theorem dX3_parentOf_5 : decode cX3_parentOf 5 = .ok (.bipush 24, 2) := by decide +kernel
theorem dX3_parentOf_7 : decode cX3_parentOf 7 = .ok (.if_icmp .ge 12, 3) := by decide +kernel
theorem dX3_parentOf_10 : decode cX3_parentOf 10 = .ok (.aload_n 0, 1) := by decide +kernel
theorem dX3_parentOf_11 : decode cX3_parentOf 11 = .ok (.getfield 15, 3) := by decide +kernel
theorem dX3_parentOf_14 : decode cX3_parentOf 14 = .ok (.iload_n 1, 1) := by decide +kernel
theorem dX3_parentOf_15 : decode cX3_parentOf 15 = .ok (.iaload, 1) := by decide +kernel
theorem dX3_parentOf_16 : decode cX3_parentOf 16 = .ok (.goto 4, 3) := by decide +kernel
theorem dX3_parentOf_19 : decode cX3_parentOf 19 = .ok (.iconst (-1), 1) := by decide +kernel
theorem dX3_parentOf_20 : decode cX3_parentOf 20 = .ok (.ireturn, 1) := by decide +kernel
theorem dX3_changesOf_0 : decode cX3_changesOf 0 = .ok (.iload_n 1, 1) := by decide +kernel
theorem dX3_changesOf_1 : decode cX3_changesOf 1 = .ok (.ifCond .lt 18, 3) := by decide +kernel
theorem dX3_changesOf_4 : decode cX3_changesOf 4 = .ok (.iload_n 1, 1) := by decide +kernel
theorem dX3_changesOf_5 : decode cX3_changesOf 5 = .ok (.bipush 24, 2) := by decide +kernel
theorem dX3_changesOf_7 : decode cX3_changesOf 7 = .ok (.if_icmp .ge 12, 3) := by decide +kernel
theorem dX3_changesOf_10 : decode cX3_changesOf 10 = .ok (.aload_n 0, 1) := by decide +kernel
theorem dX3_changesOf_11 : decode cX3_changesOf 11 = .ok (.getfield 25, 3) := by decide +kernel
theorem dX3_changesOf_14 : decode cX3_changesOf 14 = .ok (.iload_n 1, 1) := by decide +kernel
theorem dX3_changesOf_15 : decode cX3_changesOf 15 = .ok (.iaload, 1) := by decide +kernel
theorem dX3_changesOf_16 : decode cX3_changesOf 16 = .ok (.goto 4, 3) := by decide +kernel
theorem dX3_changesOf_19 : decode cX3_changesOf 19 = .ok (.iconst 0, 1) := by decide +kernel
theorem dX3_changesOf_20 : decode cX3_changesOf 20 = .ok (.ireturn, 1) := by decide +kernel
set_option maxRecDepth 20000 in
theorem ggX3_beginVersion_X3_settleNext : GoodIn wsX3_beginVersion wsX3_settleNext := goodIn_r _ [9, 2, 1, 3, 10, 4, 11, 12, 13, 8, 14, 15, 16, 17, 18, 19, 20, 21, 22, 23, 24, 25, 26] rfl (by decide +kernel)
set_option maxRecDepth 20000 in
theorem gX3_beginVersion_X3_settleNext : GoodIn wsX3_beginVersion (wsV RX3 50 RX3 yX3_settleNext wsX3_settleNext) := goodIn_app (goodIn_r _ [5, 6, 7, 8] rfl (by decide +kernel)) ggX3_beginVersion_X3_settleNext
theorem dX3_beginVersion_0 : decode cX3_beginVersion 0 = .ok (.aload_n 0, 1) := by decide +kernel
theorem dX3_beginVersion_1 : decode cX3_beginVersion 1 = .ok (.getfield 9, 3) := by decide +kernel
theorem dX3_beginVersion_4 : decode cX3_beginVersion 4 = .ok (.bipush 24, 2) := by decide +kernel
theorem dX3_beginVersion_6 : decode cX3_beginVersion 6 = .ok (.if_icmp .ge 37, 3) := by decide +kernel
theorem dX3_beginVersion_9 : decode cX3_beginVersion 9 = .ok (.aload_n 0, 1) := by decide +kernel
theorem dX3_beginVersion_10 : decode cX3_beginVersion 10 = .ok (.getfield 15, 3) := by decide +kernel
theorem dX3_beginVersion_13 : decode cX3_beginVersion 13 = .ok (.aload_n 0, 1) := by decide +kernel
theorem dX3_beginVersion_14 : decode cX3_beginVersion 14 = .ok (.getfield 9, 3) := by decide +kernel
theorem dX3_beginVersion_17 : decode cX3_beginVersion 17 = .ok (.iload_n 1, 1) := by decide +kernel
theorem dX3_beginVersion_18 : decode cX3_beginVersion 18 = .ok (.iastore, 1) := by decide +kernel
theorem dX3_beginVersion_19 : decode cX3_beginVersion 19 = .ok (.aload_n 0, 1) := by decide +kernel
theorem dX3_beginVersion_20 : decode cX3_beginVersion 20 = .ok (.getfield 19, 3) := by decide +kernel
theorem dX3_beginVersion_23 : decode cX3_beginVersion 23 = .ok (.aload_n 0, 1) := by decide +kernel
theorem dX3_beginVersion_24 : decode cX3_beginVersion 24 = .ok (.getfield 9, 3) := by decide +kernel
theorem dX3_beginVersion_27 : decode cX3_beginVersion 27 = .ok (.iload_n 2, 1) := by decide +kernel
theorem dX3_beginVersion_28 : decode cX3_beginVersion 28 = .ok (.iastore, 1) := by decide +kernel
theorem dX3_beginVersion_29 : decode cX3_beginVersion 29 = .ok (.aload_n 0, 1) := by decide +kernel
theorem dX3_beginVersion_30 : decode cX3_beginVersion 30 = .ok (.getfield 22, 3) := by decide +kernel
theorem dX3_beginVersion_33 : decode cX3_beginVersion 33 = .ok (.aload_n 0, 1) := by decide +kernel
theorem dX3_beginVersion_34 : decode cX3_beginVersion 34 = .ok (.getfield 9, 3) := by decide +kernel
theorem dX3_beginVersion_37 : decode cX3_beginVersion 37 = .ok (.iload_n 3, 1) := by decide +kernel
theorem dX3_beginVersion_38 : decode cX3_beginVersion 38 = .ok (.iastore, 1) := by decide +kernel
theorem dX3_beginVersion_39 : decode cX3_beginVersion 39 = .ok (.aload_n 0, 1) := by decide +kernel
theorem dX3_beginVersion_40 : decode cX3_beginVersion 40 = .ok (.invokevirtual 50, 3) := by decide +kernel
theorem dX3_beginVersion_43 : decode cX3_beginVersion 43 = .ok (.return_, 1) := by decide +kernel
set_option maxRecDepth 20000 in
theorem ggX3_includeInNext_X3_only : GoodIn wsX3_includeInNext wsX3_only := goodIn_r _ [7] rfl (by decide +kernel)
set_option maxRecDepth 20000 in
theorem gX3_includeInNext_X3_only : GoodIn wsX3_includeInNext (va_wsS RX3 40 yX3_only wsX3_only) := goodIn_app (goodIn_r _ [4, 5, 6] rfl (by decide +kernel)) ggX3_includeInNext_X3_only
set_option maxRecDepth 20000 in
theorem ggX3_includeInNext_X3_settleNext : GoodIn wsX3_includeInNext wsX3_settleNext := goodIn_r _ [11, 12, 1, 3, 13, 2, 14, 15, 16, 6, 17, 4, 5, 7, 18, 19, 20, 21, 22, 23, 24, 25, 26] rfl (by decide +kernel)
set_option maxRecDepth 20000 in
theorem gX3_includeInNext_X3_settleNext : GoodIn wsX3_includeInNext (wsV RX3 50 RX3 yX3_settleNext wsX3_settleNext) := goodIn_app (goodIn_r _ [8, 9, 10, 6] rfl (by decide +kernel)) ggX3_includeInNext_X3_settleNext
theorem dX3_includeInNext_0 : decode cX3_includeInNext 0 = .ok (.aload_n 0, 1) := by decide +kernel
theorem dX3_includeInNext_1 : decode cX3_includeInNext 1 = .ok (.getfield 9, 3) := by decide +kernel
theorem dX3_includeInNext_4 : decode cX3_includeInNext 4 = .ok (.bipush 24, 2) := by decide +kernel
theorem dX3_includeInNext_6 : decode cX3_includeInNext 6 = .ok (.if_icmp .ge 41, 3) := by decide +kernel
theorem dX3_includeInNext_9 : decode cX3_includeInNext 9 = .ok (.aload_n 0, 1) := by decide +kernel
theorem dX3_includeInNext_10 : decode cX3_includeInNext 10 = .ok (.getfield 22, 3) := by decide +kernel
theorem dX3_includeInNext_13 : decode cX3_includeInNext 13 = .ok (.aload_n 0, 1) := by decide +kernel
theorem dX3_includeInNext_14 : decode cX3_includeInNext 14 = .ok (.getfield 9, 3) := by decide +kernel
theorem dX3_includeInNext_17 : decode cX3_includeInNext 17 = .ok (.dup2, 1) := by decide +kernel
theorem dX3_includeInNext_18 : decode cX3_includeInNext 18 = .ok (.iaload, 1) := by decide +kernel
theorem dX3_includeInNext_19 : decode cX3_includeInNext 19 = .ok (.iload_n 1, 1) := by decide +kernel
theorem dX3_includeInNext_20 : decode cX3_includeInNext 20 = .ok (.invokestatic 40, 3) := by decide +kernel
theorem dX3_includeInNext_23 : decode cX3_includeInNext 23 = .ok (.iconst (-1), 1) := by decide +kernel
theorem dX3_includeInNext_24 : decode cX3_includeInNext 24 = .ok (.ixor, 1) := by decide +kernel
theorem dX3_includeInNext_25 : decode cX3_includeInNext 25 = .ok (.iand, 1) := by decide +kernel
theorem dX3_includeInNext_26 : decode cX3_includeInNext 26 = .ok (.iastore, 1) := by decide +kernel
theorem dX3_includeInNext_27 : decode cX3_includeInNext 27 = .ok (.aload_n 0, 1) := by decide +kernel
theorem dX3_includeInNext_28 : decode cX3_includeInNext 28 = .ok (.getfield 19, 3) := by decide +kernel
theorem dX3_includeInNext_31 : decode cX3_includeInNext 31 = .ok (.aload_n 0, 1) := by decide +kernel
theorem dX3_includeInNext_32 : decode cX3_includeInNext 32 = .ok (.getfield 9, 3) := by decide +kernel
theorem dX3_includeInNext_35 : decode cX3_includeInNext 35 = .ok (.dup2, 1) := by decide +kernel
theorem dX3_includeInNext_36 : decode cX3_includeInNext 36 = .ok (.iaload, 1) := by decide +kernel
theorem dX3_includeInNext_37 : decode cX3_includeInNext 37 = .ok (.iload_n 1, 1) := by decide +kernel
theorem dX3_includeInNext_38 : decode cX3_includeInNext 38 = .ok (.invokestatic 40, 3) := by decide +kernel
theorem dX3_includeInNext_41 : decode cX3_includeInNext 41 = .ok (.ior, 1) := by decide +kernel
theorem dX3_includeInNext_42 : decode cX3_includeInNext 42 = .ok (.iastore, 1) := by decide +kernel
theorem dX3_includeInNext_43 : decode cX3_includeInNext 43 = .ok (.aload_n 0, 1) := by decide +kernel
theorem dX3_includeInNext_44 : decode cX3_includeInNext 44 = .ok (.invokevirtual 50, 3) := by decide +kernel
theorem dX3_includeInNext_47 : decode cX3_includeInNext 47 = .ok (.return_, 1) := by decide +kernel
set_option maxRecDepth 20000 in
theorem ggX3_excludeFromNext_X3_only : GoodIn wsX3_excludeFromNext wsX3_only := goodIn_r _ [7] rfl (by decide +kernel)
set_option maxRecDepth 20000 in
theorem gX3_excludeFromNext_X3_only : GoodIn wsX3_excludeFromNext (va_wsS RX3 40 yX3_only wsX3_only) := goodIn_app (goodIn_r _ [4, 5, 6] rfl (by decide +kernel)) ggX3_excludeFromNext_X3_only
set_option maxRecDepth 20000 in
theorem ggX3_excludeFromNext_X3_settleNext : GoodIn wsX3_excludeFromNext wsX3_settleNext := goodIn_r _ [11, 12, 1, 2, 13, 3, 14, 15, 16, 6, 17, 4, 5, 7, 18, 19, 20, 21, 22, 23, 24, 25, 26] rfl (by decide +kernel)
set_option maxRecDepth 20000 in
theorem gX3_excludeFromNext_X3_settleNext : GoodIn wsX3_excludeFromNext (wsV RX3 50 RX3 yX3_settleNext wsX3_settleNext) := goodIn_app (goodIn_r _ [8, 9, 10, 6] rfl (by decide +kernel)) ggX3_excludeFromNext_X3_settleNext
theorem dX3_excludeFromNext_0 : decode cX3_excludeFromNext 0 = .ok (.aload_n 0, 1) := by decide +kernel
theorem dX3_excludeFromNext_1 : decode cX3_excludeFromNext 1 = .ok (.getfield 9, 3) := by decide +kernel
theorem dX3_excludeFromNext_4 : decode cX3_excludeFromNext 4 = .ok (.bipush 24, 2) := by decide +kernel
theorem dX3_excludeFromNext_6 : decode cX3_excludeFromNext 6 = .ok (.if_icmp .ge 41, 3) := by decide +kernel
theorem dX3_excludeFromNext_9 : decode cX3_excludeFromNext 9 = .ok (.aload_n 0, 1) := by decide +kernel
theorem dX3_excludeFromNext_10 : decode cX3_excludeFromNext 10 = .ok (.getfield 19, 3) := by decide +kernel
theorem dX3_excludeFromNext_13 : decode cX3_excludeFromNext 13 = .ok (.aload_n 0, 1) := by decide +kernel
theorem dX3_excludeFromNext_14 : decode cX3_excludeFromNext 14 = .ok (.getfield 9, 3) := by decide +kernel
theorem dX3_excludeFromNext_17 : decode cX3_excludeFromNext 17 = .ok (.dup2, 1) := by decide +kernel
theorem dX3_excludeFromNext_18 : decode cX3_excludeFromNext 18 = .ok (.iaload, 1) := by decide +kernel
theorem dX3_excludeFromNext_19 : decode cX3_excludeFromNext 19 = .ok (.iload_n 1, 1) := by decide +kernel
theorem dX3_excludeFromNext_20 : decode cX3_excludeFromNext 20 = .ok (.invokestatic 40, 3) := by decide +kernel
theorem dX3_excludeFromNext_23 : decode cX3_excludeFromNext 23 = .ok (.iconst (-1), 1) := by decide +kernel
theorem dX3_excludeFromNext_24 : decode cX3_excludeFromNext 24 = .ok (.ixor, 1) := by decide +kernel
theorem dX3_excludeFromNext_25 : decode cX3_excludeFromNext 25 = .ok (.iand, 1) := by decide +kernel
theorem dX3_excludeFromNext_26 : decode cX3_excludeFromNext 26 = .ok (.iastore, 1) := by decide +kernel
theorem dX3_excludeFromNext_27 : decode cX3_excludeFromNext 27 = .ok (.aload_n 0, 1) := by decide +kernel
theorem dX3_excludeFromNext_28 : decode cX3_excludeFromNext 28 = .ok (.getfield 22, 3) := by decide +kernel
theorem dX3_excludeFromNext_31 : decode cX3_excludeFromNext 31 = .ok (.aload_n 0, 1) := by decide +kernel
theorem dX3_excludeFromNext_32 : decode cX3_excludeFromNext 32 = .ok (.getfield 9, 3) := by decide +kernel
theorem dX3_excludeFromNext_35 : decode cX3_excludeFromNext 35 = .ok (.dup2, 1) := by decide +kernel
theorem dX3_excludeFromNext_36 : decode cX3_excludeFromNext 36 = .ok (.iaload, 1) := by decide +kernel
theorem dX3_excludeFromNext_37 : decode cX3_excludeFromNext 37 = .ok (.iload_n 1, 1) := by decide +kernel
theorem dX3_excludeFromNext_38 : decode cX3_excludeFromNext 38 = .ok (.invokestatic 40, 3) := by decide +kernel
theorem dX3_excludeFromNext_41 : decode cX3_excludeFromNext 41 = .ok (.ior, 1) := by decide +kernel
theorem dX3_excludeFromNext_42 : decode cX3_excludeFromNext 42 = .ok (.iastore, 1) := by decide +kernel
theorem dX3_excludeFromNext_43 : decode cX3_excludeFromNext 43 = .ok (.aload_n 0, 1) := by decide +kernel
theorem dX3_excludeFromNext_44 : decode cX3_excludeFromNext 44 = .ok (.invokevirtual 50, 3) := by decide +kernel
theorem dX3_excludeFromNext_47 : decode cX3_excludeFromNext 47 = .ok (.return_, 1) := by decide +kernel
theorem dX3_finishVersion_0 : decode cX3_finishVersion 0 = .ok (.aload_n 0, 1) := by decide +kernel
theorem dX3_finishVersion_1 : decode cX3_finishVersion 1 = .ok (.getfield 9, 3) := by decide +kernel
theorem dX3_finishVersion_4 : decode cX3_finishVersion 4 = .ok (.bipush 24, 2) := by decide +kernel
theorem dX3_finishVersion_6 : decode cX3_finishVersion 6 = .ok (.if_icmp .ge 13, 3) := by decide +kernel
theorem dX3_finishVersion_9 : decode cX3_finishVersion 9 = .ok (.aload_n 0, 1) := by decide +kernel
theorem dX3_finishVersion_10 : decode cX3_finishVersion 10 = .ok (.dup, 1) := by decide +kernel
theorem dX3_finishVersion_11 : decode cX3_finishVersion 11 = .ok (.getfield 9, 3) := by decide +kernel
theorem dX3_finishVersion_14 : decode cX3_finishVersion 14 = .ok (.iconst 1, 1) := by decide +kernel
theorem dX3_finishVersion_15 : decode cX3_finishVersion 15 = .ok (.iadd, 1) := by decide +kernel
theorem dX3_finishVersion_16 : decode cX3_finishVersion 16 = .ok (.putfield 9, 3) := by decide +kernel
theorem dX3_finishVersion_19 : decode cX3_finishVersion 19 = .ok (.return_, 1) := by decide +kernel
set_option maxRecDepth 20000 in
theorem ggX3_putByNext_X3_changesOf : GoodIn wsX3_putByNext wsX3_changesOf := goodIn_r _ [6, 7, 32, 33, 34, 35, 36, 37, 38, 39, 40] rfl (by decide +kernel)
set_option maxRecDepth 20000 in
theorem gX3_putByNext_X3_changesOf : GoodIn wsX3_putByNext (wsV RX3 53 RX3 yX3_changesOf wsX3_changesOf) := goodIn_app (goodIn_r _ [2, 3, 4, 5] rfl (by decide +kernel)) ggX3_putByNext_X3_changesOf
set_option maxRecDepth 20000 in
theorem ggX3_putByNext_X3_findStanding : GoodIn wsX3_putByNext wsX3_findStanding := goodIn_r _ [11, 12, 13, 14, 15, 5, 16, 17, 18, 32, 33, 34, 35, 36, 37, 38, 39, 40] rfl (by decide +kernel)
set_option maxRecDepth 20000 in
theorem gX3_putByNext_X3_findStanding : GoodIn wsX3_putByNext (wsV RX3 56 RX3 yX3_findStanding wsX3_findStanding) := goodIn_app (goodIn_r _ [8, 9, 10, 5] rfl (by decide +kernel)) ggX3_putByNext_X3_findStanding
set_option maxRecDepth 20000 in
theorem ggX3_putByNext_X3_insertLine : GoodIn wsX3_putByNext wsX3_insertLine := goodIn_r _ [22, 12, 23, 17, 18, 24, 25, 26, 5, 27, 28, 29, 30, 31, 32, 33, 34, 35, 36, 37, 38, 39, 40] rfl (by decide +kernel)
set_option maxRecDepth 20000 in
theorem gX3_putByNext_X3_insertLine : GoodIn wsX3_putByNext (wsV RX3 60 RX3 yX3_insertLine wsX3_insertLine) := goodIn_app (goodIn_r _ [19, 20, 21, 5] rfl (by decide +kernel)) ggX3_putByNext_X3_insertLine
theorem dX3_putByNext_0 : decode cX3_putByNext 0 = .ok (.iload_n 1, 1) := by decide +kernel
theorem dX3_putByNext_1 : decode cX3_putByNext 1 = .ok (.ifCond .ne 7, 3) := by decide +kernel
theorem dX3_putByNext_4 : decode cX3_putByNext 4 = .ok (.iconst (-1), 1) := by decide +kernel
theorem dX3_putByNext_5 : decode cX3_putByNext 5 = .ok (.goto 18, 3) := by decide +kernel
theorem dX3_putByNext_8 : decode cX3_putByNext 8 = .ok (.aload_n 0, 1) := by decide +kernel
theorem dX3_putByNext_9 : decode cX3_putByNext 9 = .ok (.aload_n 0, 1) := by decide +kernel
theorem dX3_putByNext_10 : decode cX3_putByNext 10 = .ok (.aload_n 0, 1) := by decide +kernel
theorem dX3_putByNext_11 : decode cX3_putByNext 11 = .ok (.getfield 9, 3) := by decide +kernel
theorem dX3_putByNext_14 : decode cX3_putByNext 14 = .ok (.invokevirtual 53, 3) := by decide +kernel
theorem dX3_putByNext_17 : decode cX3_putByNext 17 = .ok (.iload_n 1, 1) := by decide +kernel
theorem dX3_putByNext_18 : decode cX3_putByNext 18 = .ok (.iconst 1, 1) := by decide +kernel
theorem dX3_putByNext_19 : decode cX3_putByNext 19 = .ok (.isub, 1) := by decide +kernel
theorem dX3_putByNext_20 : decode cX3_putByNext 20 = .ok (.invokevirtual 56, 3) := by decide +kernel
theorem dX3_putByNext_23 : decode cX3_putByNext 23 = .ok (.istore_n 3, 1) := by decide +kernel
theorem dX3_putByNext_24 : decode cX3_putByNext 24 = .ok (.aload_n 0, 1) := by decide +kernel
theorem dX3_putByNext_25 : decode cX3_putByNext 25 = .ok (.iload_n 3, 1) := by decide +kernel
theorem dX3_putByNext_26 : decode cX3_putByNext 26 = .ok (.iconst 1, 1) := by decide +kernel
theorem dX3_putByNext_27 : decode cX3_putByNext 27 = .ok (.iadd, 1) := by decide +kernel
theorem dX3_putByNext_28 : decode cX3_putByNext 28 = .ok (.iload_n 2, 1) := by decide +kernel
theorem dX3_putByNext_29 : decode cX3_putByNext 29 = .ok (.aload_n 0, 1) := by decide +kernel
theorem dX3_putByNext_30 : decode cX3_putByNext 30 = .ok (.getfield 9, 3) := by decide +kernel
theorem dX3_putByNext_33 : decode cX3_putByNext 33 = .ok (.iconst 0, 1) := by decide +kernel
theorem dX3_putByNext_34 : decode cX3_putByNext 34 = .ok (.invokevirtual 60, 3) := by decide +kernel
theorem dX3_putByNext_37 : decode cX3_putByNext 37 = .ok (.iload_n 3, 1) := by decide +kernel
theorem dX3_putByNext_38 : decode cX3_putByNext 38 = .ok (.iconst 1, 1) := by decide +kernel
theorem dX3_putByNext_39 : decode cX3_putByNext 39 = .ok (.iadd, 1) := by decide +kernel
theorem dX3_putByNext_40 : decode cX3_putByNext 40 = .ok (.ireturn, 1) := by decide +kernel
set_option maxRecDepth 20000 in
theorem ggX3_takeByNext_X3_changesOf : GoodIn wsX3_takeByNext wsX3_changesOf := goodIn_r _ [9, 10, 39, 40, 41, 42, 43, 44, 45, 46, 47] rfl (by decide +kernel)
set_option maxRecDepth 20000 in
theorem gX3_takeByNext_X3_changesOf : GoodIn wsX3_takeByNext (wsV RX3 53 RX3 yX3_changesOf wsX3_changesOf) := goodIn_app (goodIn_r _ [5, 6, 7, 8] rfl (by decide +kernel)) ggX3_takeByNext_X3_changesOf
set_option maxRecDepth 20000 in
theorem ggX3_takeByNext_X3_findStanding : GoodIn wsX3_takeByNext wsX3_findStanding := goodIn_r _ [14, 15, 16, 17, 18, 8, 19, 3, 4, 39, 40, 41, 42, 43, 44, 45, 46, 47] rfl (by decide +kernel)
set_option maxRecDepth 20000 in
theorem gX3_takeByNext_X3_findStanding : GoodIn wsX3_takeByNext (wsV RX3 56 RX3 yX3_findStanding wsX3_findStanding) := goodIn_app (goodIn_r _ [11, 12, 13, 8] rfl (by decide +kernel)) ggX3_takeByNext_X3_findStanding
set_option maxRecDepth 20000 in
theorem ggX3_takeByNext_X3_hasLine : GoodIn wsX3_takeByNext wsX3_hasLine := goodIn_r _ [23, 15, 39, 40, 41, 42, 43, 44, 45, 46, 47] rfl (by decide +kernel)
set_option maxRecDepth 20000 in
theorem gX3_takeByNext_X3_hasLine : GoodIn wsX3_takeByNext (wsV RX3 64 RX3 yX3_hasLine wsX3_hasLine) := goodIn_app (goodIn_r _ [20, 21, 22, 8] rfl (by decide +kernel)) ggX3_takeByNext_X3_hasLine
set_option maxRecDepth 20000 in
theorem ggX3_takeByNext_X3_removeLine : GoodIn wsX3_takeByNext wsX3_removeLine := goodIn_r _ [27, 15, 28, 29, 30, 8, 31, 2, 32, 33, 34, 35, 3, 4, 39, 40, 41, 42, 43, 44, 45, 46, 47] rfl (by decide +kernel)
set_option maxRecDepth 20000 in
theorem gX3_takeByNext_X3_removeLine : GoodIn wsX3_takeByNext (wsV RX3 68 RX3 yX3_removeLine wsX3_removeLine) := goodIn_app (goodIn_r _ [24, 25, 26, 8] rfl (by decide +kernel)) ggX3_takeByNext_X3_removeLine
set_option maxRecDepth 20000 in
theorem ggX3_takeByNext_X3_only : GoodIn wsX3_takeByNext wsX3_only := goodIn_r _ [38] rfl (by decide +kernel)
set_option maxRecDepth 20000 in
theorem gX3_takeByNext_X3_only : GoodIn wsX3_takeByNext (va_wsS RX3 40 yX3_only wsX3_only) := goodIn_app (goodIn_r _ [36, 37, 8] rfl (by decide +kernel)) ggX3_takeByNext_X3_only
theorem dX3_takeByNext_0 : decode cX3_takeByNext 0 = .ok (.aload_n 0, 1) := by decide +kernel
theorem dX3_takeByNext_1 : decode cX3_takeByNext 1 = .ok (.aload_n 0, 1) := by decide +kernel
theorem dX3_takeByNext_2 : decode cX3_takeByNext 2 = .ok (.aload_n 0, 1) := by decide +kernel
theorem dX3_takeByNext_3 : decode cX3_takeByNext 3 = .ok (.getfield 9, 3) := by decide +kernel
theorem dX3_takeByNext_6 : decode cX3_takeByNext 6 = .ok (.invokevirtual 53, 3) := by decide +kernel
theorem dX3_takeByNext_9 : decode cX3_takeByNext 9 = .ok (.iload_n 1, 1) := by decide +kernel
theorem dX3_takeByNext_10 : decode cX3_takeByNext 10 = .ok (.invokevirtual 56, 3) := by decide +kernel
theorem dX3_takeByNext_13 : decode cX3_takeByNext 13 = .ok (.istore_n 2, 1) := by decide +kernel
theorem dX3_takeByNext_14 : decode cX3_takeByNext 14 = .ok (.aload_n 0, 1) := by decide +kernel
theorem dX3_takeByNext_15 : decode cX3_takeByNext 15 = .ok (.iload_n 2, 1) := by decide +kernel
theorem dX3_takeByNext_16 : decode cX3_takeByNext 16 = .ok (.invokevirtual 64, 3) := by decide +kernel
theorem dX3_takeByNext_19 : decode cX3_takeByNext 19 = .ok (.ifCond .ne 5, 3) := by decide +kernel
theorem dX3_takeByNext_22 : decode cX3_takeByNext 22 = .ok (.iconst (-1), 1) := by decide +kernel
theorem dX3_takeByNext_23 : decode cX3_takeByNext 23 = .ok (.ireturn, 1) := by decide +kernel
theorem dX3_takeByNext_24 : decode cX3_takeByNext 24 = .ok (.aload_n 0, 1) := by decide +kernel
theorem dX3_takeByNext_25 : decode cX3_takeByNext 25 = .ok (.getfield 31, 3) := by decide +kernel
theorem dX3_takeByNext_28 : decode cX3_takeByNext 28 = .ok (.iload_n 2, 1) := by decide +kernel
theorem dX3_takeByNext_29 : decode cX3_takeByNext 29 = .ok (.iaload, 1) := by decide +kernel
theorem dX3_takeByNext_30 : decode cX3_takeByNext 30 = .ok (.istore_n 3, 1) := by decide +kernel
theorem dX3_takeByNext_31 : decode cX3_takeByNext 31 = .ok (.aload_n 0, 1) := by decide +kernel
theorem dX3_takeByNext_32 : decode cX3_takeByNext 32 = .ok (.getfield 34, 3) := by decide +kernel
theorem dX3_takeByNext_35 : decode cX3_takeByNext 35 = .ok (.iload_n 2, 1) := by decide +kernel
theorem dX3_takeByNext_36 : decode cX3_takeByNext 36 = .ok (.iaload, 1) := by decide +kernel
theorem dX3_takeByNext_37 : decode cX3_takeByNext 37 = .ok (.aload_n 0, 1) := by decide +kernel
theorem dX3_takeByNext_38 : decode cX3_takeByNext 38 = .ok (.getfield 9, 3) := by decide +kernel
theorem dX3_takeByNext_41 : decode cX3_takeByNext 41 = .ok (.if_icmp .ne 11, 3) := by decide +kernel
theorem dX3_takeByNext_44 : decode cX3_takeByNext 44 = .ok (.aload_n 0, 1) := by decide +kernel
theorem dX3_takeByNext_45 : decode cX3_takeByNext 45 = .ok (.iload_n 2, 1) := by decide +kernel
theorem dX3_takeByNext_46 : decode cX3_takeByNext 46 = .ok (.invokevirtual 68, 3) := by decide +kernel
theorem dX3_takeByNext_49 : decode cX3_takeByNext 49 = .ok (.goto 19, 3) := by decide +kernel
theorem dX3_takeByNext_52 : decode cX3_takeByNext 52 = .ok (.aload_n 0, 1) := by decide +kernel
theorem dX3_takeByNext_53 : decode cX3_takeByNext 53 = .ok (.getfield 37, 3) := by decide +kernel
theorem dX3_takeByNext_56 : decode cX3_takeByNext 56 = .ok (.iload_n 2, 1) := by decide +kernel
theorem dX3_takeByNext_57 : decode cX3_takeByNext 57 = .ok (.dup2, 1) := by decide +kernel
theorem dX3_takeByNext_58 : decode cX3_takeByNext 58 = .ok (.iaload, 1) := by decide +kernel
theorem dX3_takeByNext_59 : decode cX3_takeByNext 59 = .ok (.aload_n 0, 1) := by decide +kernel
theorem dX3_takeByNext_60 : decode cX3_takeByNext 60 = .ok (.getfield 9, 3) := by decide +kernel
theorem dX3_takeByNext_63 : decode cX3_takeByNext 63 = .ok (.invokestatic 40, 3) := by decide +kernel
theorem dX3_takeByNext_66 : decode cX3_takeByNext 66 = .ok (.ior, 1) := by decide +kernel
theorem dX3_takeByNext_67 : decode cX3_takeByNext 67 = .ok (.iastore, 1) := by decide +kernel
theorem dX3_takeByNext_68 : decode cX3_takeByNext 68 = .ok (.iload_n 3, 1) := by decide +kernel
theorem dX3_takeByNext_69 : decode cX3_takeByNext 69 = .ok (.ireturn, 1) := by decide +kernel
set_option maxRecDepth 20000 in
theorem ggX3_settleNext_X3_changesOf : GoodIn wsX3_settleNext wsX3_changesOf := goodIn_r _ [10, 4, 14, 15, 16, 17, 18, 19, 20, 21, 22] rfl (by decide +kernel)
set_option maxRecDepth 20000 in
theorem gX3_settleNext_X3_changesOf : GoodIn wsX3_settleNext (wsV RX3 53 RX3 yX3_changesOf wsX3_changesOf) := goodIn_app (goodIn_r _ [6, 7, 8, 9] rfl (by decide +kernel)) ggX3_settleNext_X3_changesOf
set_option maxRecDepth 20000 in
theorem ggX3_settleNext_X3_only : GoodIn wsX3_settleNext wsX3_only := goodIn_r _ [13] rfl (by decide +kernel)
set_option maxRecDepth 20000 in
theorem gX3_settleNext_X3_only : GoodIn wsX3_settleNext (va_wsS RX3 40 yX3_only wsX3_only) := goodIn_app (goodIn_r _ [11, 12, 9] rfl (by decide +kernel)) ggX3_settleNext_X3_only
theorem dX3_settleNext_0 : decode cX3_settleNext 0 = .ok (.aload_n 0, 1) := by decide +kernel
theorem dX3_settleNext_1 : decode cX3_settleNext 1 = .ok (.aload_n 0, 1) := by decide +kernel
theorem dX3_settleNext_2 : decode cX3_settleNext 2 = .ok (.getfield 15, 3) := by decide +kernel
theorem dX3_settleNext_5 : decode cX3_settleNext 5 = .ok (.aload_n 0, 1) := by decide +kernel
theorem dX3_settleNext_6 : decode cX3_settleNext 6 = .ok (.getfield 9, 3) := by decide +kernel
theorem dX3_settleNext_9 : decode cX3_settleNext 9 = .ok (.iaload, 1) := by decide +kernel
theorem dX3_settleNext_10 : decode cX3_settleNext 10 = .ok (.invokevirtual 53, 3) := by decide +kernel
theorem dX3_settleNext_13 : decode cX3_settleNext 13 = .ok (.aload_n 0, 1) := by decide +kernel
theorem dX3_settleNext_14 : decode cX3_settleNext 14 = .ok (.getfield 19, 3) := by decide +kernel
theorem dX3_settleNext_17 : decode cX3_settleNext 17 = .ok (.aload_n 0, 1) := by decide +kernel
theorem dX3_settleNext_18 : decode cX3_settleNext 18 = .ok (.getfield 9, 3) := by decide +kernel
theorem dX3_settleNext_21 : decode cX3_settleNext 21 = .ok (.iaload, 1) := by decide +kernel
theorem dX3_settleNext_22 : decode cX3_settleNext 22 = .ok (.ior, 1) := by decide +kernel
theorem dX3_settleNext_23 : decode cX3_settleNext 23 = .ok (.istore_n 1, 1) := by decide +kernel
theorem dX3_settleNext_24 : decode cX3_settleNext 24 = .ok (.aload_n 0, 1) := by decide +kernel
theorem dX3_settleNext_25 : decode cX3_settleNext 25 = .ok (.getfield 25, 3) := by decide +kernel
theorem dX3_settleNext_28 : decode cX3_settleNext 28 = .ok (.aload_n 0, 1) := by decide +kernel
theorem dX3_settleNext_29 : decode cX3_settleNext 29 = .ok (.getfield 9, 3) := by decide +kernel
theorem dX3_settleNext_32 : decode cX3_settleNext 32 = .ok (.iload_n 1, 1) := by decide +kernel
theorem dX3_settleNext_33 : decode cX3_settleNext 33 = .ok (.aload_n 0, 1) := by decide +kernel
theorem dX3_settleNext_34 : decode cX3_settleNext 34 = .ok (.getfield 22, 3) := by decide +kernel
theorem dX3_settleNext_37 : decode cX3_settleNext 37 = .ok (.aload_n 0, 1) := by decide +kernel
theorem dX3_settleNext_38 : decode cX3_settleNext 38 = .ok (.getfield 9, 3) := by decide +kernel
theorem dX3_settleNext_41 : decode cX3_settleNext 41 = .ok (.iaload, 1) := by decide +kernel
theorem dX3_settleNext_42 : decode cX3_settleNext 42 = .ok (.iconst (-1), 1) := by decide +kernel
theorem dX3_settleNext_43 : decode cX3_settleNext 43 = .ok (.ixor, 1) := by decide +kernel
theorem dX3_settleNext_44 : decode cX3_settleNext 44 = .ok (.iand, 1) := by decide +kernel
theorem dX3_settleNext_45 : decode cX3_settleNext 45 = .ok (.aload_n 0, 1) := by decide +kernel
theorem dX3_settleNext_46 : decode cX3_settleNext 46 = .ok (.getfield 9, 3) := by decide +kernel
theorem dX3_settleNext_49 : decode cX3_settleNext 49 = .ok (.invokestatic 40, 3) := by decide +kernel
theorem dX3_settleNext_52 : decode cX3_settleNext 52 = .ok (.ior, 1) := by decide +kernel
theorem dX3_settleNext_53 : decode cX3_settleNext 53 = .ok (.iastore, 1) := by decide +kernel
theorem dX3_settleNext_54 : decode cX3_settleNext 54 = .ok (.return_, 1) := by decide +kernel
set_option maxRecDepth 20000 in
theorem ggX3_insertLine_X3_moveLines : GoodIn wsX3_insertLine wsX3_moveLines := goodIn_r _ [9, 1, 2, 10, 11, 12, 13, 3, 4, 14, 15, 16, 17, 18, 19, 20, 21, 22] rfl (by decide +kernel)
set_option maxRecDepth 20000 in
theorem gX3_insertLine_X3_moveLines : GoodIn wsX3_insertLine (wsV RX3 72 RX3 yX3_moveLines wsX3_moveLines) := goodIn_app (goodIn_r _ [5, 6, 7, 8] rfl (by decide +kernel)) ggX3_insertLine_X3_moveLines
theorem dX3_insertLine_0 : decode cX3_insertLine 0 = .ok (.iload_n 1, 1) := by decide +kernel
theorem dX3_insertLine_1 : decode cX3_insertLine 1 = .ok (.ifCond .lt 20, 3) := by decide +kernel
theorem dX3_insertLine_4 : decode cX3_insertLine 4 = .ok (.iload_n 1, 1) := by decide +kernel
theorem dX3_insertLine_5 : decode cX3_insertLine 5 = .ok (.aload_n 0, 1) := by decide +kernel
theorem dX3_insertLine_6 : decode cX3_insertLine 6 = .ok (.getfield 28, 3) := by decide +kernel
theorem dX3_insertLine_9 : decode cX3_insertLine 9 = .ok (.if_icmp .gt 12, 3) := by decide +kernel
theorem dX3_insertLine_12 : decode cX3_insertLine 12 = .ok (.aload_n 0, 1) := by decide +kernel
theorem dX3_insertLine_13 : decode cX3_insertLine 13 = .ok (.getfield 28, 3) := by decide +kernel
theorem dX3_insertLine_16 : decode cX3_insertLine 16 = .ok (.bipush 120, 2) := by decide +kernel
theorem dX3_insertLine_18 : decode cX3_insertLine 18 = .ok (.if_icmp .lt 4, 3) := by decide +kernel
theorem dX3_insertLine_21 : decode cX3_insertLine 21 = .ok (.return_, 1) := by decide +kernel
theorem dX3_insertLine_22 : decode cX3_insertLine 22 = .ok (.aload_n 0, 1) := by decide +kernel
theorem dX3_insertLine_23 : decode cX3_insertLine 23 = .ok (.iload_n 1, 1) := by decide +kernel
theorem dX3_insertLine_24 : decode cX3_insertLine 24 = .ok (.iload_n 1, 1) := by decide +kernel
theorem dX3_insertLine_25 : decode cX3_insertLine 25 = .ok (.iconst 1, 1) := by decide +kernel
theorem dX3_insertLine_26 : decode cX3_insertLine 26 = .ok (.iadd, 1) := by decide +kernel
theorem dX3_insertLine_27 : decode cX3_insertLine 27 = .ok (.invokevirtual 72, 3) := by decide +kernel
theorem dX3_insertLine_30 : decode cX3_insertLine 30 = .ok (.aload_n 0, 1) := by decide +kernel
theorem dX3_insertLine_31 : decode cX3_insertLine 31 = .ok (.getfield 31, 3) := by decide +kernel
theorem dX3_insertLine_34 : decode cX3_insertLine 34 = .ok (.iload_n 1, 1) := by decide +kernel
theorem dX3_insertLine_35 : decode cX3_insertLine 35 = .ok (.iload_n 2, 1) := by decide +kernel
theorem dX3_insertLine_36 : decode cX3_insertLine 36 = .ok (.iastore, 1) := by decide +kernel
theorem dX3_insertLine_37 : decode cX3_insertLine 37 = .ok (.aload_n 0, 1) := by decide +kernel
theorem dX3_insertLine_38 : decode cX3_insertLine 38 = .ok (.getfield 34, 3) := by decide +kernel
theorem dX3_insertLine_41 : decode cX3_insertLine 41 = .ok (.iload_n 1, 1) := by decide +kernel
theorem dX3_insertLine_42 : decode cX3_insertLine 42 = .ok (.iload_n 3, 1) := by decide +kernel
theorem dX3_insertLine_43 : decode cX3_insertLine 43 = .ok (.iastore, 1) := by decide +kernel
theorem dX3_insertLine_44 : decode cX3_insertLine 44 = .ok (.aload_n 0, 1) := by decide +kernel
theorem dX3_insertLine_45 : decode cX3_insertLine 45 = .ok (.getfield 37, 3) := by decide +kernel
theorem dX3_insertLine_48 : decode cX3_insertLine 48 = .ok (.iload_n 1, 1) := by decide +kernel
theorem dX3_insertLine_49 : decode cX3_insertLine 49 = .ok (.iload 4, 2) := by decide +kernel
theorem dX3_insertLine_51 : decode cX3_insertLine 51 = .ok (.iastore, 1) := by decide +kernel
theorem dX3_insertLine_52 : decode cX3_insertLine 52 = .ok (.aload_n 0, 1) := by decide +kernel
theorem dX3_insertLine_53 : decode cX3_insertLine 53 = .ok (.dup, 1) := by decide +kernel
theorem dX3_insertLine_54 : decode cX3_insertLine 54 = .ok (.getfield 28, 3) := by decide +kernel
theorem dX3_insertLine_57 : decode cX3_insertLine 57 = .ok (.iconst 1, 1) := by decide +kernel
theorem dX3_insertLine_58 : decode cX3_insertLine 58 = .ok (.iadd, 1) := by decide +kernel
theorem dX3_insertLine_59 : decode cX3_insertLine 59 = .ok (.putfield 28, 3) := by decide +kernel
theorem dX3_insertLine_62 : decode cX3_insertLine 62 = .ok (.return_, 1) := by decide +kernel
set_option maxRecDepth 20000 in
theorem ggX3_removeLine_X3_moveLines : GoodIn wsX3_removeLine wsX3_moveLines := goodIn_r _ [6, 1, 7, 8, 9, 10, 11, 12, 13, 14, 15, 16, 17, 18, 19, 20, 21, 22] rfl (by decide +kernel)
set_option maxRecDepth 20000 in
theorem gX3_removeLine_X3_moveLines : GoodIn wsX3_removeLine (wsV RX3 72 RX3 yX3_moveLines wsX3_moveLines) := goodIn_app (goodIn_r _ [2, 3, 4, 5] rfl (by decide +kernel)) ggX3_removeLine_X3_moveLines
theorem dX3_removeLine_0 : decode cX3_removeLine 0 = .ok (.aload_n 0, 1) := by decide +kernel
theorem dX3_removeLine_1 : decode cX3_removeLine 1 = .ok (.iload_n 1, 1) := by decide +kernel
theorem dX3_removeLine_2 : decode cX3_removeLine 2 = .ok (.iconst 1, 1) := by decide +kernel
theorem dX3_removeLine_3 : decode cX3_removeLine 3 = .ok (.iadd, 1) := by decide +kernel
theorem dX3_removeLine_4 : decode cX3_removeLine 4 = .ok (.iload_n 1, 1) := by decide +kernel
theorem dX3_removeLine_5 : decode cX3_removeLine 5 = .ok (.invokevirtual 72, 3) := by decide +kernel
theorem dX3_removeLine_8 : decode cX3_removeLine 8 = .ok (.aload_n 0, 1) := by decide +kernel
theorem dX3_removeLine_9 : decode cX3_removeLine 9 = .ok (.dup, 1) := by decide +kernel
theorem dX3_removeLine_10 : decode cX3_removeLine 10 = .ok (.getfield 28, 3) := by decide +kernel
theorem dX3_removeLine_13 : decode cX3_removeLine 13 = .ok (.iconst 1, 1) := by decide +kernel
theorem dX3_removeLine_14 : decode cX3_removeLine 14 = .ok (.isub, 1) := by decide +kernel
theorem dX3_removeLine_15 : decode cX3_removeLine 15 = .ok (.putfield 28, 3) := by decide +kernel
theorem dX3_removeLine_18 : decode cX3_removeLine 18 = .ok (.return_, 1) := by decide +kernel
theorem dX3_moveLines_0 : decode cX3_moveLines 0 = .ok (.aload_n 0, 1) := by decide +kernel
theorem dX3_moveLines_1 : decode cX3_moveLines 1 = .ok (.getfield 28, 3) := by decide +kernel
theorem dX3_moveLines_4 : decode cX3_moveLines 4 = .ok (.iload_n 1, 1) := by decide +kernel
theorem dX3_moveLines_5 : decode cX3_moveLines 5 = .ok (.isub, 1) := by decide +kernel
theorem dX3_moveLines_6 : decode cX3_moveLines 6 = .ok (.istore_n 3, 1) := by decide +kernel
theorem dX3_moveLines_7 : decode cX3_moveLines 7 = .ok (.aload_n 0, 1) := by decide +kernel
theorem dX3_moveLines_8 : decode cX3_moveLines 8 = .ok (.getfield 31, 3) := by decide +kernel
theorem dX3_moveLines_11 : decode cX3_moveLines 11 = .ok (.iload_n 1, 1) := by decide +kernel
theorem dX3_moveLines_12 : decode cX3_moveLines 12 = .ok (.aload_n 0, 1) := by decide +kernel
theorem dX3_moveLines_13 : decode cX3_moveLines 13 = .ok (.getfield 31, 3) := by decide +kernel
theorem dX3_moveLines_16 : decode cX3_moveLines 16 = .ok (.iload_n 2, 1) := by decide +kernel
theorem dX3_moveLines_17 : decode cX3_moveLines 17 = .ok (.iload_n 3, 1) := by decide +kernel
theorem dX3_moveLines_18 : decode cX3_moveLines 18 = .ok (.invokestatic 44, 3) := by decide +kernel
theorem dX3_moveLines_21 : decode cX3_moveLines 21 = .ok (.aload_n 0, 1) := by decide +kernel
theorem dX3_moveLines_22 : decode cX3_moveLines 22 = .ok (.getfield 34, 3) := by decide +kernel
theorem dX3_moveLines_25 : decode cX3_moveLines 25 = .ok (.iload_n 1, 1) := by decide +kernel
theorem dX3_moveLines_26 : decode cX3_moveLines 26 = .ok (.aload_n 0, 1) := by decide +kernel
theorem dX3_moveLines_27 : decode cX3_moveLines 27 = .ok (.getfield 34, 3) := by decide +kernel
theorem dX3_moveLines_30 : decode cX3_moveLines 30 = .ok (.iload_n 2, 1) := by decide +kernel
theorem dX3_moveLines_31 : decode cX3_moveLines 31 = .ok (.iload_n 3, 1) := by decide +kernel
theorem dX3_moveLines_32 : decode cX3_moveLines 32 = .ok (.invokestatic 44, 3) := by decide +kernel
theorem dX3_moveLines_35 : decode cX3_moveLines 35 = .ok (.aload_n 0, 1) := by decide +kernel
theorem dX3_moveLines_36 : decode cX3_moveLines 36 = .ok (.getfield 37, 3) := by decide +kernel
theorem dX3_moveLines_39 : decode cX3_moveLines 39 = .ok (.iload_n 1, 1) := by decide +kernel
theorem dX3_moveLines_40 : decode cX3_moveLines 40 = .ok (.aload_n 0, 1) := by decide +kernel
theorem dX3_moveLines_41 : decode cX3_moveLines 41 = .ok (.getfield 37, 3) := by decide +kernel
theorem dX3_moveLines_44 : decode cX3_moveLines 44 = .ok (.iload_n 2, 1) := by decide +kernel
theorem dX3_moveLines_45 : decode cX3_moveLines 45 = .ok (.iload_n 3, 1) := by decide +kernel
theorem dX3_moveLines_46 : decode cX3_moveLines 46 = .ok (.invokestatic 44, 3) := by decide +kernel
theorem dX3_moveLines_49 : decode cX3_moveLines 49 = .ok (.return_, 1) := by decide +kernel
theorem dX3_stands_0 : decode cX3_stands 0 = .ok (.iload_n 2, 1) := by decide +kernel
theorem dX3_stands_1 : decode cX3_stands 1 = .ok (.aload_n 0, 1) := by decide +kernel
theorem dX3_stands_2 : decode cX3_stands 2 = .ok (.getfield 34, 3) := by decide +kernel
theorem dX3_stands_5 : decode cX3_stands 5 = .ok (.iload_n 1, 1) := by decide +kernel
theorem dX3_stands_6 : decode cX3_stands 6 = .ok (.iaload, 1) := by decide +kernel
theorem dX3_stands_7 : decode cX3_stands 7 = .ok (.ishr, 1) := by decide +kernel
theorem dX3_stands_8 : decode cX3_stands 8 = .ok (.iconst 1, 1) := by decide +kernel
theorem dX3_stands_9 : decode cX3_stands 9 = .ok (.iand, 1) := by decide +kernel
theorem dX3_stands_10 : decode cX3_stands 10 = .ok (.iconst 1, 1) := by decide +kernel
theorem dX3_stands_11 : decode cX3_stands 11 = .ok (.if_icmp .ne 18, 3) := by decide +kernel
theorem dX3_stands_14 : decode cX3_stands 14 = .ok (.aload_n 0, 1) := by decide +kernel
theorem dX3_stands_15 : decode cX3_stands 15 = .ok (.getfield 37, 3) := by decide +kernel
theorem dX3_stands_18 : decode cX3_stands 18 = .ok (.iload_n 1, 1) := by decide +kernel
theorem dX3_stands_19 : decode cX3_stands 19 = .ok (.iaload, 1) := by decide +kernel
theorem dX3_stands_20 : decode cX3_stands 20 = .ok (.iload_n 2, 1) := by decide +kernel
theorem dX3_stands_21 : decode cX3_stands 21 = .ok (.iand, 1) := by decide +kernel
theorem dX3_stands_22 : decode cX3_stands 22 = .ok (.ifCond .ne 7, 3) := by decide +kernel
theorem dX3_stands_25 : decode cX3_stands 25 = .ok (.iconst 1, 1) := by decide +kernel
theorem dX3_stands_26 : decode cX3_stands 26 = .ok (.goto 4, 3) := by decide +kernel
theorem dX3_stands_29 : decode cX3_stands 29 = .ok (.iconst 0, 1) := by decide +kernel
theorem dX3_stands_30 : decode cX3_stands 30 = .ok (.ireturn, 1) := by decide +kernel
set_option maxRecDepth 20000 in
theorem ggX3_countStanding_X3_countInBoth : GoodIn wsX3_countStanding wsX3_countInBoth := goodIn_r _ [5, 6, 7, 8, 9, 4, 10, 11, 12, 13, 14, 15, 16, 17, 18, 19, 20, 21] rfl (by decide +kernel)
set_option maxRecDepth 20000 in
theorem gX3_countStanding_X3_countInBoth : GoodIn wsX3_countStanding (wsV RX3 76 RX3 yX3_countInBoth wsX3_countInBoth) := goodIn_app (goodIn_r _ [1, 2, 3, 4] rfl (by decide +kernel)) ggX3_countStanding_X3_countInBoth
theorem dX3_countStanding_0 : decode cX3_countStanding 0 = .ok (.aload_n 0, 1) := by decide +kernel
theorem dX3_countStanding_1 : decode cX3_countStanding 1 = .ok (.iload_n 1, 1) := by decide +kernel
theorem dX3_countStanding_2 : decode cX3_countStanding 2 = .ok (.iload_n 1, 1) := by decide +kernel
theorem dX3_countStanding_3 : decode cX3_countStanding 3 = .ok (.invokevirtual 76, 3) := by decide +kernel
theorem dX3_countStanding_6 : decode cX3_countStanding 6 = .ok (.ireturn, 1) := by decide +kernel
set_option maxRecDepth 20000 in
theorem ggX3_countInBoth_X3_stands : GoodIn wsX3_countInBoth wsX3_stands := goodIn_r _ [6, 7, 8, 9, 10, 11, 12, 13, 14, 15, 16, 17] rfl (by decide +kernel)
set_option maxRecDepth 20000 in
theorem gX3_countInBoth_X3_stands : GoodIn wsX3_countInBoth (wsV RX3 79 RX3 yX3_stands wsX3_stands) := goodIn_app (goodIn_r _ [2, 3, 4, 5] rfl (by decide +kernel)) ggX3_countInBoth_X3_stands
theorem dX3_countInBoth_0 : decode cX3_countInBoth 0 = .ok (.iconst 0, 1) := by decide +kernel
theorem dX3_countInBoth_1 : decode cX3_countInBoth 1 = .ok (.istore_n 3, 1) := by decide +kernel
theorem dX3_countInBoth_2 : decode cX3_countInBoth 2 = .ok (.iconst 0, 1) := by decide +kernel
theorem dX3_countInBoth_3 : decode cX3_countInBoth 3 = .ok (.istore 4, 2) := by decide +kernel
theorem dX3_countInBoth_5 : decode cX3_countInBoth 5 = .ok (.iload 4, 2) := by decide +kernel
theorem dX3_countInBoth_7 : decode cX3_countInBoth 7 = .ok (.aload_n 0, 1) := by decide +kernel
theorem dX3_countInBoth_8 : decode cX3_countInBoth 8 = .ok (.getfield 28, 3) := by decide +kernel
theorem dX3_countInBoth_11 : decode cX3_countInBoth 11 = .ok (.if_icmp .ge 32, 3) := by decide +kernel
theorem dX3_countInBoth_14 : decode cX3_countInBoth 14 = .ok (.aload_n 0, 1) := by decide +kernel
theorem dX3_countInBoth_15 : decode cX3_countInBoth 15 = .ok (.iload 4, 2) := by decide +kernel
theorem dX3_countInBoth_17 : decode cX3_countInBoth 17 = .ok (.iload_n 1, 1) := by decide +kernel
theorem dX3_countInBoth_18 : decode cX3_countInBoth 18 = .ok (.invokevirtual 79, 3) := by decide +kernel
theorem dX3_countInBoth_21 : decode cX3_countInBoth 21 = .ok (.ifCond .eq 16, 3) := by decide +kernel
theorem dX3_countInBoth_24 : decode cX3_countInBoth 24 = .ok (.aload_n 0, 1) := by decide +kernel
theorem dX3_countInBoth_25 : decode cX3_countInBoth 25 = .ok (.iload 4, 2) := by decide +kernel
theorem dX3_countInBoth_27 : decode cX3_countInBoth 27 = .ok (.iload_n 2, 1) := by decide +kernel
theorem dX3_countInBoth_28 : decode cX3_countInBoth 28 = .ok (.invokevirtual 79, 3) := by decide +kernel
theorem dX3_countInBoth_31 : decode cX3_countInBoth 31 = .ok (.ifCond .eq 6, 3) := by decide +kernel
theorem dX3_countInBoth_34 : decode cX3_countInBoth 34 = .ok (.iinc 3 1, 3) := by decide +kernel
theorem dX3_countInBoth_37 : decode cX3_countInBoth 37 = .ok (.iinc 4 1, 3) := by decide +kernel
theorem dX3_countInBoth_40 : decode cX3_countInBoth 40 = .ok (.goto (-35), 3) := by decide +kernel
theorem dX3_countInBoth_43 : decode cX3_countInBoth 43 = .ok (.iload_n 3, 1) := by decide +kernel
theorem dX3_countInBoth_44 : decode cX3_countInBoth 44 = .ok (.ireturn, 1) := by decide +kernel
set_option maxRecDepth 20000 in
theorem ggX3_findStanding_X3_stands : GoodIn wsX3_findStanding wsX3_stands := goodIn_r _ [6, 7, 8, 9, 10, 11, 12, 13, 14, 15, 16, 17] rfl (by decide +kernel)
set_option maxRecDepth 20000 in
theorem gX3_findStanding_X3_stands : GoodIn wsX3_findStanding (wsV RX3 79 RX3 yX3_stands wsX3_stands) := goodIn_app (goodIn_r _ [2, 3, 4, 5] rfl (by decide +kernel)) ggX3_findStanding_X3_stands
theorem dX3_findStanding_0 : decode cX3_findStanding 0 = .ok (.iload_n 2, 1) := by decide +kernel
theorem dX3_findStanding_1 : decode cX3_findStanding 1 = .ok (.istore_n 3, 1) := by decide +kernel
theorem dX3_findStanding_2 : decode cX3_findStanding 2 = .ok (.iconst 0, 1) := by decide +kernel
theorem dX3_findStanding_3 : decode cX3_findStanding 3 = .ok (.istore 4, 2) := by decide +kernel
theorem dX3_findStanding_5 : decode cX3_findStanding 5 = .ok (.iload 4, 2) := by decide +kernel
theorem dX3_findStanding_7 : decode cX3_findStanding 7 = .ok (.aload_n 0, 1) := by decide +kernel
theorem dX3_findStanding_8 : decode cX3_findStanding 8 = .ok (.getfield 28, 3) := by decide +kernel
theorem dX3_findStanding_11 : decode cX3_findStanding 11 = .ok (.if_icmp .ge 29, 3) := by decide +kernel
theorem dX3_findStanding_14 : decode cX3_findStanding 14 = .ok (.aload_n 0, 1) := by decide +kernel
theorem dX3_findStanding_15 : decode cX3_findStanding 15 = .ok (.iload 4, 2) := by decide +kernel
theorem dX3_findStanding_17 : decode cX3_findStanding 17 = .ok (.iload_n 1, 1) := by decide +kernel
theorem dX3_findStanding_18 : decode cX3_findStanding 18 = .ok (.invokevirtual 79, 3) := by decide +kernel
theorem dX3_findStanding_21 : decode cX3_findStanding 21 = .ok (.ifCond .eq 13, 3) := by decide +kernel
theorem dX3_findStanding_24 : decode cX3_findStanding 24 = .ok (.iload_n 3, 1) := by decide +kernel
theorem dX3_findStanding_25 : decode cX3_findStanding 25 = .ok (.ifCond .ne 6, 3) := by decide +kernel
theorem dX3_findStanding_28 : decode cX3_findStanding 28 = .ok (.iload 4, 2) := by decide +kernel
theorem dX3_findStanding_30 : decode cX3_findStanding 30 = .ok (.ireturn, 1) := by decide +kernel
theorem dX3_findStanding_31 : decode cX3_findStanding 31 = .ok (.iinc 3 (-1), 3) := by decide +kernel
theorem dX3_findStanding_34 : decode cX3_findStanding 34 = .ok (.iinc 4 1, 3) := by decide +kernel
theorem dX3_findStanding_37 : decode cX3_findStanding 37 = .ok (.goto (-32), 3) := by decide +kernel
theorem dX3_findStanding_40 : decode cX3_findStanding 40 = .ok (.iconst (-1), 1) := by decide +kernel
theorem dX3_findStanding_41 : decode cX3_findStanding 41 = .ok (.ireturn, 1) := by decide +kernel
set_option maxRecDepth 20000 in
theorem ggX3_findPart_X3_stands : GoodIn wsX3_findPart wsX3_stands := goodIn_r _ [6, 7, 8, 9, 10, 11, 12, 13, 14, 15, 16, 17] rfl (by decide +kernel)
set_option maxRecDepth 20000 in
theorem gX3_findPart_X3_stands : GoodIn wsX3_findPart (wsV RX3 79 RX3 yX3_stands wsX3_stands) := goodIn_app (goodIn_r _ [2, 3, 4, 5] rfl (by decide +kernel)) ggX3_findPart_X3_stands
theorem dX3_findPart_0 : decode cX3_findPart 0 = .ok (.iconst 0, 1) := by decide +kernel
theorem dX3_findPart_1 : decode cX3_findPart 1 = .ok (.istore_n 3, 1) := by decide +kernel
theorem dX3_findPart_2 : decode cX3_findPart 2 = .ok (.iconst 0, 1) := by decide +kernel
theorem dX3_findPart_3 : decode cX3_findPart 3 = .ok (.istore 4, 2) := by decide +kernel
theorem dX3_findPart_5 : decode cX3_findPart 5 = .ok (.iload 4, 2) := by decide +kernel
theorem dX3_findPart_7 : decode cX3_findPart 7 = .ok (.aload_n 0, 1) := by decide +kernel
theorem dX3_findPart_8 : decode cX3_findPart 8 = .ok (.getfield 28, 3) := by decide +kernel
theorem dX3_findPart_11 : decode cX3_findPart 11 = .ok (.if_icmp .ge 40, 3) := by decide +kernel
theorem dX3_findPart_14 : decode cX3_findPart 14 = .ok (.aload_n 0, 1) := by decide +kernel
theorem dX3_findPart_15 : decode cX3_findPart 15 = .ok (.iload 4, 2) := by decide +kernel
theorem dX3_findPart_17 : decode cX3_findPart 17 = .ok (.iload_n 1, 1) := by decide +kernel
theorem dX3_findPart_18 : decode cX3_findPart 18 = .ok (.invokevirtual 79, 3) := by decide +kernel
theorem dX3_findPart_21 : decode cX3_findPart 21 = .ok (.istore 5, 2) := by decide +kernel
theorem dX3_findPart_23 : decode cX3_findPart 23 = .ok (.iload 5, 2) := by decide +kernel
theorem dX3_findPart_25 : decode cX3_findPart 25 = .ok (.aload_n 0, 1) := by decide +kernel
theorem dX3_findPart_26 : decode cX3_findPart 26 = .ok (.iload 4, 2) := by decide +kernel
theorem dX3_findPart_28 : decode cX3_findPart 28 = .ok (.iload_n 2, 1) := by decide +kernel
theorem dX3_findPart_29 : decode cX3_findPart 29 = .ok (.invokevirtual 79, 3) := by decide +kernel
theorem dX3_findPart_32 : decode cX3_findPart 32 = .ok (.if_icmp .eq 5, 3) := by decide +kernel
theorem dX3_findPart_35 : decode cX3_findPart 35 = .ok (.iload_n 3, 1) := by decide +kernel
theorem dX3_findPart_36 : decode cX3_findPart 36 = .ok (.ireturn, 1) := by decide +kernel
theorem dX3_findPart_37 : decode cX3_findPart 37 = .ok (.iload 5, 2) := by decide +kernel
theorem dX3_findPart_39 : decode cX3_findPart 39 = .ok (.ifCond .eq 6, 3) := by decide +kernel
theorem dX3_findPart_42 : decode cX3_findPart 42 = .ok (.iinc 3 1, 3) := by decide +kernel
theorem dX3_findPart_45 : decode cX3_findPart 45 = .ok (.iinc 4 1, 3) := by decide +kernel
theorem dX3_findPart_48 : decode cX3_findPart 48 = .ok (.goto (-43), 3) := by decide +kernel
theorem dX3_findPart_51 : decode cX3_findPart 51 = .ok (.iconst (-1), 1) := by decide +kernel
theorem dX3_findPart_52 : decode cX3_findPart 52 = .ok (.ireturn, 1) := by decide +kernel
theorem dX3_countBrought_0 : decode cX3_countBrought 0 = .ok (.iconst 0, 1) := by decide +kernel
theorem dX3_countBrought_1 : decode cX3_countBrought 1 = .ok (.istore_n 2, 1) := by decide +kernel
theorem dX3_countBrought_2 : decode cX3_countBrought 2 = .ok (.iconst 0, 1) := by decide +kernel
theorem dX3_countBrought_3 : decode cX3_countBrought 3 = .ok (.istore_n 3, 1) := by decide +kernel
theorem dX3_countBrought_4 : decode cX3_countBrought 4 = .ok (.iload_n 3, 1) := by decide +kernel
theorem dX3_countBrought_5 : decode cX3_countBrought 5 = .ok (.aload_n 0, 1) := by decide +kernel
theorem dX3_countBrought_6 : decode cX3_countBrought 6 = .ok (.getfield 28, 3) := by decide +kernel
theorem dX3_countBrought_9 : decode cX3_countBrought 9 = .ok (.if_icmp .ge 22, 3) := by decide +kernel
theorem dX3_countBrought_12 : decode cX3_countBrought 12 = .ok (.aload_n 0, 1) := by decide +kernel
theorem dX3_countBrought_13 : decode cX3_countBrought 13 = .ok (.getfield 34, 3) := by decide +kernel
theorem dX3_countBrought_16 : decode cX3_countBrought 16 = .ok (.iload_n 3, 1) := by decide +kernel
theorem dX3_countBrought_17 : decode cX3_countBrought 17 = .ok (.iaload, 1) := by decide +kernel
theorem dX3_countBrought_18 : decode cX3_countBrought 18 = .ok (.iload_n 1, 1) := by decide +kernel
theorem dX3_countBrought_19 : decode cX3_countBrought 19 = .ok (.if_icmp .ne 6, 3) := by decide +kernel
theorem dX3_countBrought_22 : decode cX3_countBrought 22 = .ok (.iinc 2 1, 3) := by decide +kernel
theorem dX3_countBrought_25 : decode cX3_countBrought 25 = .ok (.iinc 3 1, 3) := by decide +kernel
theorem dX3_countBrought_28 : decode cX3_countBrought 28 = .ok (.goto (-24), 3) := by decide +kernel
theorem dX3_countBrought_31 : decode cX3_countBrought 31 = .ok (.iload_n 2, 1) := by decide +kernel
theorem dX3_countBrought_32 : decode cX3_countBrought 32 = .ok (.ireturn, 1) := by decide +kernel
set_option maxRecDepth 20000 in
theorem ggX3_countTaken_X3_holds : GoodIn wsX3_countTaken wsX3_holds := goodIn_r _ [6, 7, 8, 5, 9] rfl (by decide +kernel)
set_option maxRecDepth 20000 in
theorem gX3_countTaken_X3_holds : GoodIn wsX3_countTaken (va_wsS RX3 83 yX3_holds wsX3_holds) := goodIn_app (goodIn_r _ [3, 4, 5] rfl (by decide +kernel)) ggX3_countTaken_X3_holds
theorem dX3_countTaken_0 : decode cX3_countTaken 0 = .ok (.iconst 0, 1) := by decide +kernel
theorem dX3_countTaken_1 : decode cX3_countTaken 1 = .ok (.istore_n 2, 1) := by decide +kernel
theorem dX3_countTaken_2 : decode cX3_countTaken 2 = .ok (.iconst 0, 1) := by decide +kernel
theorem dX3_countTaken_3 : decode cX3_countTaken 3 = .ok (.istore_n 3, 1) := by decide +kernel
theorem dX3_countTaken_4 : decode cX3_countTaken 4 = .ok (.iload_n 3, 1) := by decide +kernel
theorem dX3_countTaken_5 : decode cX3_countTaken 5 = .ok (.aload_n 0, 1) := by decide +kernel
theorem dX3_countTaken_6 : decode cX3_countTaken 6 = .ok (.getfield 28, 3) := by decide +kernel
theorem dX3_countTaken_9 : decode cX3_countTaken 9 = .ok (.if_icmp .ge 25, 3) := by decide +kernel
theorem dX3_countTaken_12 : decode cX3_countTaken 12 = .ok (.aload_n 0, 1) := by decide +kernel
theorem dX3_countTaken_13 : decode cX3_countTaken 13 = .ok (.getfield 37, 3) := by decide +kernel
theorem dX3_countTaken_16 : decode cX3_countTaken 16 = .ok (.iload_n 3, 1) := by decide +kernel
theorem dX3_countTaken_17 : decode cX3_countTaken 17 = .ok (.iaload, 1) := by decide +kernel
theorem dX3_countTaken_18 : decode cX3_countTaken 18 = .ok (.iload_n 1, 1) := by decide +kernel
theorem dX3_countTaken_19 : decode cX3_countTaken 19 = .ok (.invokestatic 83, 3) := by decide +kernel
theorem dX3_countTaken_22 : decode cX3_countTaken 22 = .ok (.ifCond .eq 6, 3) := by decide +kernel
theorem dX3_countTaken_25 : decode cX3_countTaken 25 = .ok (.iinc 2 1, 3) := by decide +kernel
theorem dX3_countTaken_28 : decode cX3_countTaken 28 = .ok (.iinc 3 1, 3) := by decide +kernel
theorem dX3_countTaken_31 : decode cX3_countTaken 31 = .ok (.goto (-27), 3) := by decide +kernel
theorem dX3_countTaken_34 : decode cX3_countTaken 34 = .ok (.iload_n 2, 1) := by decide +kernel
theorem dX3_countTaken_35 : decode cX3_countTaken 35 = .ok (.ireturn, 1) := by decide +kernel
set_option maxRecDepth 20000 in
theorem ggX3_countShare_X3_stands : GoodIn wsX3_countShare wsX3_stands := goodIn_r _ [7, 2, 8, 9, 10, 11, 12, 13, 14, 15, 16, 17] rfl (by decide +kernel)
set_option maxRecDepth 20000 in
theorem gX3_countShare_X3_stands : GoodIn wsX3_countShare (wsV RX3 79 RX3 yX3_stands wsX3_stands) := goodIn_app (goodIn_r _ [3, 4, 5, 6] rfl (by decide +kernel)) ggX3_countShare_X3_stands
theorem dX3_countShare_0 : decode cX3_countShare 0 = .ok (.iconst 0, 1) := by decide +kernel
theorem dX3_countShare_1 : decode cX3_countShare 1 = .ok (.istore_n 3, 1) := by decide +kernel
theorem dX3_countShare_2 : decode cX3_countShare 2 = .ok (.iconst 0, 1) := by decide +kernel
theorem dX3_countShare_3 : decode cX3_countShare 3 = .ok (.istore 4, 2) := by decide +kernel
theorem dX3_countShare_5 : decode cX3_countShare 5 = .ok (.iload 4, 2) := by decide +kernel
theorem dX3_countShare_7 : decode cX3_countShare 7 = .ok (.aload_n 0, 1) := by decide +kernel
theorem dX3_countShare_8 : decode cX3_countShare 8 = .ok (.getfield 28, 3) := by decide +kernel
theorem dX3_countShare_11 : decode cX3_countShare 11 = .ok (.if_icmp .ge 33, 3) := by decide +kernel
theorem dX3_countShare_14 : decode cX3_countShare 14 = .ok (.aload_n 0, 1) := by decide +kernel
theorem dX3_countShare_15 : decode cX3_countShare 15 = .ok (.getfield 34, 3) := by decide +kernel
theorem dX3_countShare_18 : decode cX3_countShare 18 = .ok (.iload 4, 2) := by decide +kernel
theorem dX3_countShare_20 : decode cX3_countShare 20 = .ok (.iaload, 1) := by decide +kernel
theorem dX3_countShare_21 : decode cX3_countShare 21 = .ok (.iload_n 2, 1) := by decide +kernel
theorem dX3_countShare_22 : decode cX3_countShare 22 = .ok (.if_icmp .ne 16, 3) := by decide +kernel
theorem dX3_countShare_25 : decode cX3_countShare 25 = .ok (.aload_n 0, 1) := by decide +kernel
theorem dX3_countShare_26 : decode cX3_countShare 26 = .ok (.iload 4, 2) := by decide +kernel
theorem dX3_countShare_28 : decode cX3_countShare 28 = .ok (.iload_n 1, 1) := by decide +kernel
theorem dX3_countShare_29 : decode cX3_countShare 29 = .ok (.invokevirtual 79, 3) := by decide +kernel
theorem dX3_countShare_32 : decode cX3_countShare 32 = .ok (.ifCond .eq 6, 3) := by decide +kernel
theorem dX3_countShare_35 : decode cX3_countShare 35 = .ok (.iinc 3 1, 3) := by decide +kernel
theorem dX3_countShare_38 : decode cX3_countShare 38 = .ok (.iinc 4 1, 3) := by decide +kernel
theorem dX3_countShare_41 : decode cX3_countShare 41 = .ok (.goto (-36), 3) := by decide +kernel
theorem dX3_countShare_44 : decode cX3_countShare 44 = .ok (.iload_n 3, 1) := by decide +kernel
theorem dX3_countShare_45 : decode cX3_countShare 45 = .ok (.ireturn, 1) := by decide +kernel
set_option maxRecDepth 20000 in
theorem ggX3_lifeOf_X3_stands : GoodIn wsX3_lifeOf wsX3_stands := goodIn_r _ [7, 8, 9, 13, 14, 15, 16, 17, 18, 19, 20, 21] rfl (by decide +kernel)
set_option maxRecDepth 20000 in
theorem gX3_lifeOf_X3_stands : GoodIn wsX3_lifeOf (wsV RX3 79 RX3 yX3_stands wsX3_stands) := goodIn_app (goodIn_r _ [3, 4, 5, 6] rfl (by decide +kernel)) ggX3_lifeOf_X3_stands
set_option maxRecDepth 20000 in
theorem ggX3_lifeOf_X3_only : GoodIn wsX3_lifeOf wsX3_only := goodIn_r _ [12] rfl (by decide +kernel)
set_option maxRecDepth 20000 in
theorem gX3_lifeOf_X3_only : GoodIn wsX3_lifeOf (va_wsS RX3 40 yX3_only wsX3_only) := goodIn_app (goodIn_r _ [10, 11, 6] rfl (by decide +kernel)) ggX3_lifeOf_X3_only
theorem dX3_lifeOf_0 : decode cX3_lifeOf 0 = .ok (.iconst 0, 1) := by decide +kernel
theorem dX3_lifeOf_1 : decode cX3_lifeOf 1 = .ok (.istore_n 2, 1) := by decide +kernel
theorem dX3_lifeOf_2 : decode cX3_lifeOf 2 = .ok (.iconst 0, 1) := by decide +kernel
theorem dX3_lifeOf_3 : decode cX3_lifeOf 3 = .ok (.istore_n 3, 1) := by decide +kernel
theorem dX3_lifeOf_4 : decode cX3_lifeOf 4 = .ok (.iload_n 3, 1) := by decide +kernel
theorem dX3_lifeOf_5 : decode cX3_lifeOf 5 = .ok (.aload_n 0, 1) := by decide +kernel
theorem dX3_lifeOf_6 : decode cX3_lifeOf 6 = .ok (.getfield 9, 3) := by decide +kernel
theorem dX3_lifeOf_9 : decode cX3_lifeOf 9 = .ok (.if_icmp .ge 30, 3) := by decide +kernel
theorem dX3_lifeOf_12 : decode cX3_lifeOf 12 = .ok (.aload_n 0, 1) := by decide +kernel
theorem dX3_lifeOf_13 : decode cX3_lifeOf 13 = .ok (.iload_n 1, 1) := by decide +kernel
theorem dX3_lifeOf_14 : decode cX3_lifeOf 14 = .ok (.aload_n 0, 1) := by decide +kernel
theorem dX3_lifeOf_15 : decode cX3_lifeOf 15 = .ok (.getfield 25, 3) := by decide +kernel
theorem dX3_lifeOf_18 : decode cX3_lifeOf 18 = .ok (.iload_n 3, 1) := by decide +kernel
theorem dX3_lifeOf_19 : decode cX3_lifeOf 19 = .ok (.iaload, 1) := by decide +kernel
theorem dX3_lifeOf_20 : decode cX3_lifeOf 20 = .ok (.invokevirtual 79, 3) := by decide +kernel
theorem dX3_lifeOf_23 : decode cX3_lifeOf 23 = .ok (.ifCond .eq 10, 3) := by decide +kernel
theorem dX3_lifeOf_26 : decode cX3_lifeOf 26 = .ok (.iload_n 2, 1) := by decide +kernel
theorem dX3_lifeOf_27 : decode cX3_lifeOf 27 = .ok (.iload_n 3, 1) := by decide +kernel
theorem dX3_lifeOf_28 : decode cX3_lifeOf 28 = .ok (.invokestatic 40, 3) := by decide +kernel
theorem dX3_lifeOf_31 : decode cX3_lifeOf 31 = .ok (.ior, 1) := by decide +kernel
theorem dX3_lifeOf_32 : decode cX3_lifeOf 32 = .ok (.istore_n 2, 1) := by decide +kernel
theorem dX3_lifeOf_33 : decode cX3_lifeOf 33 = .ok (.iinc 3 1, 3) := by decide +kernel
theorem dX3_lifeOf_36 : decode cX3_lifeOf 36 = .ok (.goto (-32), 3) := by decide +kernel
theorem dX3_lifeOf_39 : decode cX3_lifeOf 39 = .ok (.iload_n 2, 1) := by decide +kernel
theorem dX3_lifeOf_40 : decode cX3_lifeOf 40 = .ok (.ireturn, 1) := by decide +kernel
set_option maxRecDepth 20000 in
theorem ggX3_countGone_X3_lifeOf : GoodIn wsX3_countGone wsX3_lifeOf := goodIn_r _ [6, 7, 8, 9, 10, 11, 5, 12, 13, 14, 15, 16, 17, 18, 19, 20, 21, 22, 23, 24, 25, 26] rfl (by decide +kernel)
set_option maxRecDepth 20000 in
theorem gX3_countGone_X3_lifeOf : GoodIn wsX3_countGone (wsV RX3 86 RX3 yX3_lifeOf wsX3_lifeOf) := goodIn_app (goodIn_r _ [2, 3, 4, 5] rfl (by decide +kernel)) ggX3_countGone_X3_lifeOf
theorem dX3_countGone_0 : decode cX3_countGone 0 = .ok (.iconst 0, 1) := by decide +kernel
theorem dX3_countGone_1 : decode cX3_countGone 1 = .ok (.istore_n 1, 1) := by decide +kernel
theorem dX3_countGone_2 : decode cX3_countGone 2 = .ok (.iconst 0, 1) := by decide +kernel
theorem dX3_countGone_3 : decode cX3_countGone 3 = .ok (.istore_n 2, 1) := by decide +kernel
theorem dX3_countGone_4 : decode cX3_countGone 4 = .ok (.iload_n 2, 1) := by decide +kernel
theorem dX3_countGone_5 : decode cX3_countGone 5 = .ok (.aload_n 0, 1) := by decide +kernel
theorem dX3_countGone_6 : decode cX3_countGone 6 = .ok (.getfield 28, 3) := by decide +kernel
theorem dX3_countGone_9 : decode cX3_countGone 9 = .ok (.if_icmp .ge 20, 3) := by decide +kernel
theorem dX3_countGone_12 : decode cX3_countGone 12 = .ok (.aload_n 0, 1) := by decide +kernel
theorem dX3_countGone_13 : decode cX3_countGone 13 = .ok (.iload_n 2, 1) := by decide +kernel
theorem dX3_countGone_14 : decode cX3_countGone 14 = .ok (.invokevirtual 86, 3) := by decide +kernel
theorem dX3_countGone_17 : decode cX3_countGone 17 = .ok (.ifCond .ne 6, 3) := by decide +kernel
theorem dX3_countGone_20 : decode cX3_countGone 20 = .ok (.iinc 1 1, 3) := by decide +kernel
theorem dX3_countGone_23 : decode cX3_countGone 23 = .ok (.iinc 2 1, 3) := by decide +kernel
theorem dX3_countGone_26 : decode cX3_countGone 26 = .ok (.goto (-22), 3) := by decide +kernel
theorem dX3_countGone_29 : decode cX3_countGone 29 = .ok (.iload_n 1, 1) := by decide +kernel
theorem dX3_countGone_30 : decode cX3_countGone 30 = .ok (.ireturn, 1) := by decide +kernel
set_option maxRecDepth 20000 in
theorem ggX3_greatestNesting_J6_bitCount_0f7a4 : GoodIn wsX3_greatestNesting wsJ6_bitCount_0f7a4 := goodIn_r _ [10, 11, 12, 13] rfl (by decide +kernel)
set_option maxRecDepth 20000 in
theorem gX3_greatestNesting_J6_bitCount_0f7a4 : GoodIn wsX3_greatestNesting (va_wsS RX3 89 yJ6_bitCount_0f7a4 wsJ6_bitCount_0f7a4) := goodIn_app (goodIn_r _ [7, 8, 9] rfl (by decide +kernel)) ggX3_greatestNesting_J6_bitCount_0f7a4
theorem dX3_greatestNesting_0 : decode cX3_greatestNesting 0 = .ok (.iconst 0, 1) := by decide +kernel
theorem dX3_greatestNesting_1 : decode cX3_greatestNesting 1 = .ok (.istore_n 1, 1) := by decide +kernel
theorem dX3_greatestNesting_2 : decode cX3_greatestNesting 2 = .ok (.iconst 0, 1) := by decide +kernel
theorem dX3_greatestNesting_3 : decode cX3_greatestNesting 3 = .ok (.istore_n 2, 1) := by decide +kernel
theorem dX3_greatestNesting_4 : decode cX3_greatestNesting 4 = .ok (.iload_n 2, 1) := by decide +kernel
theorem dX3_greatestNesting_5 : decode cX3_greatestNesting 5 = .ok (.aload_n 0, 1) := by decide +kernel
theorem dX3_greatestNesting_6 : decode cX3_greatestNesting 6 = .ok (.getfield 28, 3) := by decide +kernel
theorem dX3_greatestNesting_9 : decode cX3_greatestNesting 9 = .ok (.if_icmp .ge 25, 3) := by decide +kernel
theorem dX3_greatestNesting_12 : decode cX3_greatestNesting 12 = .ok (.iload_n 1, 1) := by decide +kernel
theorem dX3_greatestNesting_13 : decode cX3_greatestNesting 13 = .ok (.iconst 1, 1) := by decide +kernel
theorem dX3_greatestNesting_14 : decode cX3_greatestNesting 14 = .ok (.aload_n 0, 1) := by decide +kernel
theorem dX3_greatestNesting_15 : decode cX3_greatestNesting 15 = .ok (.getfield 37, 3) := by decide +kernel
theorem dX3_greatestNesting_18 : decode cX3_greatestNesting 18 = .ok (.iload_n 2, 1) := by decide +kernel
theorem dX3_greatestNesting_19 : decode cX3_greatestNesting 19 = .ok (.iaload, 1) := by decide +kernel
theorem dX3_greatestNesting_20 : decode cX3_greatestNesting 20 = .ok (.invokestatic 89, 3) := by decide +kernel
theorem dX3_greatestNesting_23 : decode cX3_greatestNesting 23 = .ok (.iadd, 1) := by decide +kernel
theorem dX3_greatestNesting_24 : decode cX3_greatestNesting 24 = .ok (.invokestatic 94, 3) := by decide +kernel
theorem dX3_greatestNesting_27 : decode cX3_greatestNesting 27 = .ok (.istore_n 1, 1) := by decide +kernel
theorem dX3_greatestNesting_28 : decode cX3_greatestNesting 28 = .ok (.iinc 2 1, 3) := by decide +kernel
theorem dX3_greatestNesting_31 : decode cX3_greatestNesting 31 = .ok (.goto (-27), 3) := by decide +kernel
theorem dX3_greatestNesting_34 : decode cX3_greatestNesting 34 = .ok (.iload_n 1, 1) := by decide +kernel
theorem dX3_greatestNesting_35 : decode cX3_greatestNesting 35 = .ok (.ireturn, 1) := by decide +kernel
set_option maxRecDepth 20000 in
theorem ggX3_pictureOf_X3_lifeOf : GoodIn wsX3_pictureOf wsX3_lifeOf := goodIn_r _ [9, 10, 11, 12, 13, 14, 8, 15, 3, 16, 17, 18, 19, 20, 21, 22, 23, 24, 25, 26, 27, 28] rfl (by decide +kernel)
set_option maxRecDepth 20000 in
theorem gX3_pictureOf_X3_lifeOf : GoodIn wsX3_pictureOf (wsV RX3 86 RX3 yX3_lifeOf wsX3_lifeOf) := goodIn_app (goodIn_r _ [5, 6, 7, 8] rfl (by decide +kernel)) ggX3_pictureOf_X3_lifeOf
theorem dX3_pictureOf_0 : decode cX3_pictureOf 0 = .ok (.aload_n 0, 1) := by decide +kernel
theorem dX3_pictureOf_1 : decode cX3_pictureOf 1 = .ok (.getfield 31, 3) := by decide +kernel
theorem dX3_pictureOf_4 : decode cX3_pictureOf 4 = .ok (.iload_n 1, 1) := by decide +kernel
theorem dX3_pictureOf_5 : decode cX3_pictureOf 5 = .ok (.iaload, 1) := by decide +kernel
theorem dX3_pictureOf_6 : decode cX3_pictureOf 6 = .ok (.i2l, 1) := by decide +kernel
theorem dX3_pictureOf_7 : decode cX3_pictureOf 7 = .ok (.ldc2_w 99, 3) := by decide +kernel
theorem dX3_pictureOf_10 : decode cX3_pictureOf 10 = .ok (.aload_n 0, 1) := by decide +kernel
theorem dX3_pictureOf_11 : decode cX3_pictureOf 11 = .ok (.getfield 34, 3) := by decide +kernel
theorem dX3_pictureOf_14 : decode cX3_pictureOf 14 = .ok (.iload_n 1, 1) := by decide +kernel
theorem dX3_pictureOf_15 : decode cX3_pictureOf 15 = .ok (.iaload, 1) := by decide +kernel
theorem dX3_pictureOf_16 : decode cX3_pictureOf 16 = .ok (.i2l, 1) := by decide +kernel
theorem dX3_pictureOf_17 : decode cX3_pictureOf 17 = .ok (.lmul, 1) := by decide +kernel
theorem dX3_pictureOf_18 : decode cX3_pictureOf 18 = .ok (.ladd, 1) := by decide +kernel
theorem dX3_pictureOf_19 : decode cX3_pictureOf 19 = .ok (.ldc2_w 101, 3) := by decide +kernel
theorem dX3_pictureOf_22 : decode cX3_pictureOf 22 = .ok (.aload_n 0, 1) := by decide +kernel
theorem dX3_pictureOf_23 : decode cX3_pictureOf 23 = .ok (.iload_n 1, 1) := by decide +kernel
theorem dX3_pictureOf_24 : decode cX3_pictureOf 24 = .ok (.invokevirtual 86, 3) := by decide +kernel
theorem dX3_pictureOf_27 : decode cX3_pictureOf 27 = .ok (.i2l, 1) := by decide +kernel
theorem dX3_pictureOf_28 : decode cX3_pictureOf 28 = .ok (.lmul, 1) := by decide +kernel
theorem dX3_pictureOf_29 : decode cX3_pictureOf 29 = .ok (.ladd, 1) := by decide +kernel
theorem dX3_pictureOf_30 : decode cX3_pictureOf 30 = .ok (.lreturn, 1) := by decide +kernel
theorem dX3_beginsBlock_0 : decode cX3_beginsBlock 0 = .ok (.iload_n 1, 1) := by decide +kernel
theorem dX3_beginsBlock_1 : decode cX3_beginsBlock 1 = .ok (.ifCond .eq 37, 3) := by decide +kernel
theorem dX3_beginsBlock_4 : decode cX3_beginsBlock 4 = .ok (.aload_n 0, 1) := by decide +kernel
theorem dX3_beginsBlock_5 : decode cX3_beginsBlock 5 = .ok (.getfield 34, 3) := by decide +kernel
theorem dX3_beginsBlock_8 : decode cX3_beginsBlock 8 = .ok (.iload_n 1, 1) := by decide +kernel
theorem dX3_beginsBlock_9 : decode cX3_beginsBlock 9 = .ok (.iaload, 1) := by decide +kernel
theorem dX3_beginsBlock_10 : decode cX3_beginsBlock 10 = .ok (.aload_n 0, 1) := by decide +kernel
theorem dX3_beginsBlock_11 : decode cX3_beginsBlock 11 = .ok (.getfield 34, 3) := by decide +kernel
theorem dX3_beginsBlock_14 : decode cX3_beginsBlock 14 = .ok (.iload_n 1, 1) := by decide +kernel
theorem dX3_beginsBlock_15 : decode cX3_beginsBlock 15 = .ok (.iconst 1, 1) := by decide +kernel
theorem dX3_beginsBlock_16 : decode cX3_beginsBlock 16 = .ok (.isub, 1) := by decide +kernel
theorem dX3_beginsBlock_17 : decode cX3_beginsBlock 17 = .ok (.iaload, 1) := by decide +kernel
theorem dX3_beginsBlock_18 : decode cX3_beginsBlock 18 = .ok (.if_icmp .ne 20, 3) := by decide +kernel
theorem dX3_beginsBlock_21 : decode cX3_beginsBlock 21 = .ok (.aload_n 0, 1) := by decide +kernel
theorem dX3_beginsBlock_22 : decode cX3_beginsBlock 22 = .ok (.getfield 37, 3) := by decide +kernel
theorem dX3_beginsBlock_25 : decode cX3_beginsBlock 25 = .ok (.iload_n 1, 1) := by decide +kernel
theorem dX3_beginsBlock_26 : decode cX3_beginsBlock 26 = .ok (.iaload, 1) := by decide +kernel
theorem dX3_beginsBlock_27 : decode cX3_beginsBlock 27 = .ok (.aload_n 0, 1) := by decide +kernel
theorem dX3_beginsBlock_28 : decode cX3_beginsBlock 28 = .ok (.getfield 37, 3) := by decide +kernel
theorem dX3_beginsBlock_31 : decode cX3_beginsBlock 31 = .ok (.iload_n 1, 1) := by decide +kernel
theorem dX3_beginsBlock_32 : decode cX3_beginsBlock 32 = .ok (.iconst 1, 1) := by decide +kernel
theorem dX3_beginsBlock_33 : decode cX3_beginsBlock 33 = .ok (.isub, 1) := by decide +kernel
theorem dX3_beginsBlock_34 : decode cX3_beginsBlock 34 = .ok (.iaload, 1) := by decide +kernel
theorem dX3_beginsBlock_35 : decode cX3_beginsBlock 35 = .ok (.if_icmp .eq 7, 3) := by decide +kernel
theorem dX3_beginsBlock_38 : decode cX3_beginsBlock 38 = .ok (.iconst 1, 1) := by decide +kernel
theorem dX3_beginsBlock_39 : decode cX3_beginsBlock 39 = .ok (.goto 4, 3) := by decide +kernel
theorem dX3_beginsBlock_42 : decode cX3_beginsBlock 42 = .ok (.iconst 0, 1) := by decide +kernel
theorem dX3_beginsBlock_43 : decode cX3_beginsBlock 43 = .ok (.ireturn, 1) := by decide +kernel
set_option maxRecDepth 20000 in
theorem ggX3_countBlocks_X3_beginsBlock : GoodIn wsX3_countBlocks wsX3_beginsBlock := goodIn_r _ [6, 7, 8, 9, 10, 11, 12, 13, 14, 15, 16, 17] rfl (by decide +kernel)
set_option maxRecDepth 20000 in
theorem gX3_countBlocks_X3_beginsBlock : GoodIn wsX3_countBlocks (wsV RX3 103 RX3 yX3_beginsBlock wsX3_beginsBlock) := goodIn_app (goodIn_r _ [2, 3, 4, 5] rfl (by decide +kernel)) ggX3_countBlocks_X3_beginsBlock
theorem dX3_countBlocks_0 : decode cX3_countBlocks 0 = .ok (.iconst 0, 1) := by decide +kernel
theorem dX3_countBlocks_1 : decode cX3_countBlocks 1 = .ok (.istore_n 1, 1) := by decide +kernel
theorem dX3_countBlocks_2 : decode cX3_countBlocks 2 = .ok (.iconst 0, 1) := by decide +kernel
theorem dX3_countBlocks_3 : decode cX3_countBlocks 3 = .ok (.istore_n 2, 1) := by decide +kernel
theorem dX3_countBlocks_4 : decode cX3_countBlocks 4 = .ok (.iload_n 2, 1) := by decide +kernel
theorem dX3_countBlocks_5 : decode cX3_countBlocks 5 = .ok (.aload_n 0, 1) := by decide +kernel
theorem dX3_countBlocks_6 : decode cX3_countBlocks 6 = .ok (.getfield 28, 3) := by decide +kernel
theorem dX3_countBlocks_9 : decode cX3_countBlocks 9 = .ok (.if_icmp .ge 20, 3) := by decide +kernel
theorem dX3_countBlocks_12 : decode cX3_countBlocks 12 = .ok (.aload_n 0, 1) := by decide +kernel
theorem dX3_countBlocks_13 : decode cX3_countBlocks 13 = .ok (.iload_n 2, 1) := by decide +kernel
theorem dX3_countBlocks_14 : decode cX3_countBlocks 14 = .ok (.invokevirtual 103, 3) := by decide +kernel
theorem dX3_countBlocks_17 : decode cX3_countBlocks 17 = .ok (.ifCond .eq 6, 3) := by decide +kernel
theorem dX3_countBlocks_20 : decode cX3_countBlocks 20 = .ok (.iinc 1 1, 3) := by decide +kernel
theorem dX3_countBlocks_23 : decode cX3_countBlocks 23 = .ok (.iinc 2 1, 3) := by decide +kernel
theorem dX3_countBlocks_26 : decode cX3_countBlocks 26 = .ok (.goto (-22), 3) := by decide +kernel
theorem dX3_countBlocks_29 : decode cX3_countBlocks 29 = .ok (.iload_n 1, 1) := by decide +kernel
theorem dX3_countBlocks_30 : decode cX3_countBlocks 30 = .ok (.ireturn, 1) := by decide +kernel
set_option maxRecDepth 20000 in
theorem ggX3_findBlock_X3_beginsBlock : GoodIn wsX3_findBlock wsX3_beginsBlock := goodIn_r _ [6, 7, 8, 9, 10, 11, 12, 13, 14, 15, 16, 17] rfl (by decide +kernel)
set_option maxRecDepth 20000 in
theorem gX3_findBlock_X3_beginsBlock : GoodIn wsX3_findBlock (wsV RX3 103 RX3 yX3_beginsBlock wsX3_beginsBlock) := goodIn_app (goodIn_r _ [2, 3, 4, 5] rfl (by decide +kernel)) ggX3_findBlock_X3_beginsBlock
theorem dX3_findBlock_0 : decode cX3_findBlock 0 = .ok (.iload_n 1, 1) := by decide +kernel
theorem dX3_findBlock_1 : decode cX3_findBlock 1 = .ok (.istore_n 2, 1) := by decide +kernel
theorem dX3_findBlock_2 : decode cX3_findBlock 2 = .ok (.iconst 0, 1) := by decide +kernel
theorem dX3_findBlock_3 : decode cX3_findBlock 3 = .ok (.istore_n 3, 1) := by decide +kernel
theorem dX3_findBlock_4 : decode cX3_findBlock 4 = .ok (.iload_n 3, 1) := by decide +kernel
theorem dX3_findBlock_5 : decode cX3_findBlock 5 = .ok (.aload_n 0, 1) := by decide +kernel
theorem dX3_findBlock_6 : decode cX3_findBlock 6 = .ok (.getfield 28, 3) := by decide +kernel
theorem dX3_findBlock_9 : decode cX3_findBlock 9 = .ok (.if_icmp .ge 26, 3) := by decide +kernel
theorem dX3_findBlock_12 : decode cX3_findBlock 12 = .ok (.aload_n 0, 1) := by decide +kernel
theorem dX3_findBlock_13 : decode cX3_findBlock 13 = .ok (.iload_n 3, 1) := by decide +kernel
theorem dX3_findBlock_14 : decode cX3_findBlock 14 = .ok (.invokevirtual 103, 3) := by decide +kernel
theorem dX3_findBlock_17 : decode cX3_findBlock 17 = .ok (.ifCond .eq 12, 3) := by decide +kernel
theorem dX3_findBlock_20 : decode cX3_findBlock 20 = .ok (.iload_n 2, 1) := by decide +kernel
theorem dX3_findBlock_21 : decode cX3_findBlock 21 = .ok (.ifCond .ne 5, 3) := by decide +kernel
theorem dX3_findBlock_24 : decode cX3_findBlock 24 = .ok (.iload_n 3, 1) := by decide +kernel
theorem dX3_findBlock_25 : decode cX3_findBlock 25 = .ok (.ireturn, 1) := by decide +kernel
theorem dX3_findBlock_26 : decode cX3_findBlock 26 = .ok (.iinc 2 (-1), 3) := by decide +kernel
theorem dX3_findBlock_29 : decode cX3_findBlock 29 = .ok (.iinc 3 1, 3) := by decide +kernel
theorem dX3_findBlock_32 : decode cX3_findBlock 32 = .ok (.goto (-28), 3) := by decide +kernel
theorem dX3_findBlock_35 : decode cX3_findBlock 35 = .ok (.iconst (-1), 1) := by decide +kernel
theorem dX3_findBlock_36 : decode cX3_findBlock 36 = .ok (.ireturn, 1) := by decide +kernel
set_option maxRecDepth 20000 in
theorem ggX3_blockLength_X3_beginsBlock : GoodIn wsX3_blockLength wsX3_beginsBlock := goodIn_r _ [6, 7, 8, 9, 10, 11, 12, 13, 14, 15, 16, 17] rfl (by decide +kernel)
set_option maxRecDepth 20000 in
theorem gX3_blockLength_X3_beginsBlock : GoodIn wsX3_blockLength (wsV RX3 103 RX3 yX3_beginsBlock wsX3_beginsBlock) := goodIn_app (goodIn_r _ [2, 3, 4, 5] rfl (by decide +kernel)) ggX3_blockLength_X3_beginsBlock
theorem dX3_blockLength_0 : decode cX3_blockLength 0 = .ok (.iload_n 1, 1) := by decide +kernel
theorem dX3_blockLength_1 : decode cX3_blockLength 1 = .ok (.iconst 1, 1) := by decide +kernel
theorem dX3_blockLength_2 : decode cX3_blockLength 2 = .ok (.iadd, 1) := by decide +kernel
theorem dX3_blockLength_3 : decode cX3_blockLength 3 = .ok (.istore_n 2, 1) := by decide +kernel
theorem dX3_blockLength_4 : decode cX3_blockLength 4 = .ok (.iload_n 1, 1) := by decide +kernel
theorem dX3_blockLength_5 : decode cX3_blockLength 5 = .ok (.iconst 1, 1) := by decide +kernel
theorem dX3_blockLength_6 : decode cX3_blockLength 6 = .ok (.iadd, 1) := by decide +kernel
theorem dX3_blockLength_7 : decode cX3_blockLength 7 = .ok (.istore_n 3, 1) := by decide +kernel
theorem dX3_blockLength_8 : decode cX3_blockLength 8 = .ok (.iload_n 3, 1) := by decide +kernel
theorem dX3_blockLength_9 : decode cX3_blockLength 9 = .ok (.aload_n 0, 1) := by decide +kernel
theorem dX3_blockLength_10 : decode cX3_blockLength 10 = .ok (.getfield 28, 3) := by decide +kernel
theorem dX3_blockLength_13 : decode cX3_blockLength 13 = .ok (.if_icmp .ge 21, 3) := by decide +kernel
theorem dX3_blockLength_16 : decode cX3_blockLength 16 = .ok (.aload_n 0, 1) := by decide +kernel
theorem dX3_blockLength_17 : decode cX3_blockLength 17 = .ok (.iload_n 3, 1) := by decide +kernel
theorem dX3_blockLength_18 : decode cX3_blockLength 18 = .ok (.invokevirtual 103, 3) := by decide +kernel
theorem dX3_blockLength_21 : decode cX3_blockLength 21 = .ok (.ifCond .ne 13, 3) := by decide +kernel
theorem dX3_blockLength_24 : decode cX3_blockLength 24 = .ok (.iload_n 3, 1) := by decide +kernel
theorem dX3_blockLength_25 : decode cX3_blockLength 25 = .ok (.iconst 1, 1) := by decide +kernel
theorem dX3_blockLength_26 : decode cX3_blockLength 26 = .ok (.iadd, 1) := by decide +kernel
theorem dX3_blockLength_27 : decode cX3_blockLength 27 = .ok (.istore_n 2, 1) := by decide +kernel
theorem dX3_blockLength_28 : decode cX3_blockLength 28 = .ok (.iinc 3 1, 3) := by decide +kernel
theorem dX3_blockLength_31 : decode cX3_blockLength 31 = .ok (.goto (-23), 3) := by decide +kernel
theorem dX3_blockLength_34 : decode cX3_blockLength 34 = .ok (.iload_n 2, 1) := by decide +kernel
theorem dX3_blockLength_35 : decode cX3_blockLength 35 = .ok (.iload_n 1, 1) := by decide +kernel
theorem dX3_blockLength_36 : decode cX3_blockLength 36 = .ok (.isub, 1) := by decide +kernel
theorem dX3_blockLength_37 : decode cX3_blockLength 37 = .ok (.ireturn, 1) := by decide +kernel
set_option maxRecDepth 20000 in
theorem ggX3_lineageOf_X3_only : GoodIn wsX3_lineageOf wsX3_only := goodIn_r _ [6] rfl (by decide +kernel)
set_option maxRecDepth 20000 in
theorem gX3_lineageOf_X3_only : GoodIn wsX3_lineageOf (va_wsS RX3 40 yX3_only wsX3_only) := goodIn_app (goodIn_r _ [3, 4, 5] rfl (by decide +kernel)) ggX3_lineageOf_X3_only
theorem dX3_lineageOf_0 : decode cX3_lineageOf 0 = .ok (.iconst 0, 1) := by decide +kernel
theorem dX3_lineageOf_1 : decode cX3_lineageOf 1 = .ok (.istore_n 2, 1) := by decide +kernel
theorem dX3_lineageOf_2 : decode cX3_lineageOf 2 = .ok (.iload_n 1, 1) := by decide +kernel
theorem dX3_lineageOf_3 : decode cX3_lineageOf 3 = .ok (.istore_n 3, 1) := by decide +kernel
theorem dX3_lineageOf_4 : decode cX3_lineageOf 4 = .ok (.aload_n 0, 1) := by decide +kernel
theorem dX3_lineageOf_5 : decode cX3_lineageOf 5 = .ok (.getfield 9, 3) := by decide +kernel
theorem dX3_lineageOf_8 : decode cX3_lineageOf 8 = .ok (.iconst 1, 1) := by decide +kernel
theorem dX3_lineageOf_9 : decode cX3_lineageOf 9 = .ok (.isub, 1) := by decide +kernel
theorem dX3_lineageOf_10 : decode cX3_lineageOf 10 = .ok (.istore 4, 2) := by decide +kernel
theorem dX3_lineageOf_12 : decode cX3_lineageOf 12 = .ok (.iload 4, 2) := by decide +kernel
theorem dX3_lineageOf_14 : decode cX3_lineageOf 14 = .ok (.ifCond .lt 31, 3) := by decide +kernel
theorem dX3_lineageOf_17 : decode cX3_lineageOf 17 = .ok (.iload 4, 2) := by decide +kernel
theorem dX3_lineageOf_19 : decode cX3_lineageOf 19 = .ok (.iload_n 3, 1) := by decide +kernel
theorem dX3_lineageOf_20 : decode cX3_lineageOf 20 = .ok (.if_icmp .ne 19, 3) := by decide +kernel
theorem dX3_lineageOf_23 : decode cX3_lineageOf 23 = .ok (.iload_n 2, 1) := by decide +kernel
theorem dX3_lineageOf_24 : decode cX3_lineageOf 24 = .ok (.iload 4, 2) := by decide +kernel
theorem dX3_lineageOf_26 : decode cX3_lineageOf 26 = .ok (.invokestatic 40, 3) := by decide +kernel
theorem dX3_lineageOf_29 : decode cX3_lineageOf 29 = .ok (.ior, 1) := by decide +kernel
theorem dX3_lineageOf_30 : decode cX3_lineageOf 30 = .ok (.istore_n 2, 1) := by decide +kernel
theorem dX3_lineageOf_31 : decode cX3_lineageOf 31 = .ok (.aload_n 0, 1) := by decide +kernel
theorem dX3_lineageOf_32 : decode cX3_lineageOf 32 = .ok (.getfield 15, 3) := by decide +kernel
theorem dX3_lineageOf_35 : decode cX3_lineageOf 35 = .ok (.iload 4, 2) := by decide +kernel
theorem dX3_lineageOf_37 : decode cX3_lineageOf 37 = .ok (.iaload, 1) := by decide +kernel
theorem dX3_lineageOf_38 : decode cX3_lineageOf 38 = .ok (.istore_n 3, 1) := by decide +kernel
theorem dX3_lineageOf_39 : decode cX3_lineageOf 39 = .ok (.iinc 4 (-1), 3) := by decide +kernel
theorem dX3_lineageOf_42 : decode cX3_lineageOf 42 = .ok (.goto (-30), 3) := by decide +kernel
theorem dX3_lineageOf_45 : decode cX3_lineageOf 45 = .ok (.iload_n 2, 1) := by decide +kernel
theorem dX3_lineageOf_46 : decode cX3_lineageOf 46 = .ok (.ireturn, 1) := by decide +kernel
set_option maxRecDepth 20000 in
theorem ggX4_init_X3_init : GoodIn wsX4_init wsX3_init := goodIn_r _ [28, 29, 2, 3, 30, 31, 32, 33, 34, 35, 36, 37, 38, 39, 69, 70, 71, 72, 73, 74, 75, 76, 77] rfl (by decide +kernel)
set_option maxRecDepth 20000 in
theorem gX4_init_X3_init : GoodIn wsX4_init (wsX3_init) := ggX4_init_X3_init
set_option maxRecDepth 20000 in
theorem ggX4_init_X1_init : GoodIn wsX4_init wsX1_init := goodIn_r _ [42, 43, 2, 3, 31, 44, 45, 46, 47, 48, 49, 10, 50, 51, 52, 53, 5, 6, 54, 55, 27, 28, 29, 30, 32, 33, 34, 35, 36, 37, 38, 39, 87, 88, 89, 90, 91, 92, 93, 94, 95, 96, 69, 70, 71, 72, 73, 74, 75, 76, 77] rfl (by decide +kernel)
set_option maxRecDepth 20000 in
theorem gX4_init_X1_init : GoodIn wsX4_init (wsX1_init) := ggX4_init_X1_init
set_option maxRecDepth 20000 in
theorem ggX4_init_X2_init : GoodIn wsX4_init wsX2_init := goodIn_r _ [58, 59, 2, 3, 60, 61, 62, 31, 63, 97, 98] rfl (by decide +kernel)
set_option maxRecDepth 20000 in
theorem gX4_init_X2_init : GoodIn wsX4_init (wsX2_init) := ggX4_init_X2_init
set_option maxRecDepth 20000 in
theorem ggX4_init_X0_init : GoodIn wsX4_init wsX0_init := goodIn_r _ [66, 67, 2, 3, 68, 99] rfl (by decide +kernel)
set_option maxRecDepth 20000 in
theorem gX4_init_X0_init : GoodIn wsX4_init (wsX0_init) := ggX4_init_X0_init
theorem dX4_init_0 : decode cX4_init 0 = .ok (.aload_n 0, 1) := by decide +kernel
theorem dX4_init_1 : decode cX4_init 1 = .ok (.invokespecial 1, 3) := by decide +kernel
theorem dX4_init_4 : decode cX4_init 4 = .ok (.aload_n 0, 1) := by decide +kernel
theorem dX4_init_5 : decode cX4_init 5 = .ok (.new 7, 3) := by decide +kernel
theorem dX4_init_8 : decode cX4_init 8 = .ok (.dup, 1) := by decide +kernel
theorem dX4_init_9 : decode cX4_init 9 = .ok (.invokespecial 9, 3) := by decide +kernel
theorem dX4_init_12 : decode cX4_init 12 = .ok (.putfield 10, 3) := by decide +kernel
theorem dX4_init_15 : decode cX4_init 15 = .ok (.aload_n 0, 1) := by decide +kernel
theorem dX4_init_16 : decode cX4_init 16 = .ok (.new 7, 3) := by decide +kernel
theorem dX4_init_19 : decode cX4_init 19 = .ok (.dup, 1) := by decide +kernel
theorem dX4_init_20 : decode cX4_init 20 = .ok (.invokespecial 9, 3) := by decide +kernel
theorem dX4_init_23 : decode cX4_init 23 = .ok (.putfield 16, 3) := by decide +kernel
theorem dX4_init_26 : decode cX4_init 26 = .ok (.aload_n 0, 1) := by decide +kernel
theorem dX4_init_27 : decode cX4_init 27 = .ok (.iconst 2, 1) := by decide +kernel
theorem dX4_init_28 : decode cX4_init 28 = .ok (.anewarray 7, 3) := by decide +kernel
theorem dX4_init_31 : decode cX4_init 31 = .ok (.putfield 19, 3) := by decide +kernel
theorem dX4_init_34 : decode cX4_init 34 = .ok (.iconst 0, 1) := by decide +kernel
theorem dX4_init_35 : decode cX4_init 35 = .ok (.istore_n 1, 1) := by decide +kernel
theorem dX4_init_36 : decode cX4_init 36 = .ok (.iload_n 1, 1) := by decide +kernel
theorem dX4_init_37 : decode cX4_init 37 = .ok (.iconst 2, 1) := by decide +kernel
theorem dX4_init_38 : decode cX4_init 38 = .ok (.if_icmp .ge 22, 3) := by decide +kernel
theorem dX4_init_41 : decode cX4_init 41 = .ok (.aload_n 0, 1) := by decide +kernel
theorem dX4_init_42 : decode cX4_init 42 = .ok (.getfield 19, 3) := by decide +kernel
theorem dX4_init_45 : decode cX4_init 45 = .ok (.iload_n 1, 1) := by decide +kernel
theorem dX4_init_46 : decode cX4_init 46 = .ok (.new 7, 3) := by decide +kernel
theorem dX4_init_49 : decode cX4_init 49 = .ok (.dup, 1) := by decide +kernel
theorem dX4_init_50 : decode cX4_init 50 = .ok (.invokespecial 9, 3) := by decide +kernel
theorem dX4_init_53 : decode cX4_init 53 = .ok (.aastore, 1) := by decide +kernel
theorem dX4_init_54 : decode cX4_init 54 = .ok (.iinc 1 1, 3) := by decide +kernel
theorem dX4_init_57 : decode cX4_init 57 = .ok (.goto (-21), 3) := by decide +kernel
theorem dX4_init_60 : decode cX4_init 60 = .ok (.aload_n 0, 1) := by decide +kernel
theorem dX4_init_61 : decode cX4_init 61 = .ok (.iconst 2, 1) := by decide +kernel
theorem dX4_init_62 : decode cX4_init 62 = .ok (.newarray .boolean, 2) := by decide +kernel
theorem dX4_init_64 : decode cX4_init 64 = .ok (.putfield 23, 3) := by decide +kernel
theorem dX4_init_67 : decode cX4_init 67 = .ok (.aload_n 0, 1) := by decide +kernel
theorem dX4_init_68 : decode cX4_init 68 = .ok (.new 27, 3) := by decide +kernel
theorem dX4_init_71 : decode cX4_init 71 = .ok (.dup, 1) := by decide +kernel
theorem dX4_init_72 : decode cX4_init 72 = .ok (.invokespecial 29, 3) := by decide +kernel
theorem dX4_init_75 : decode cX4_init 75 = .ok (.putfield 30, 3) := by decide +kernel
theorem dX4_init_78 : decode cX4_init 78 = .ok (.aload_n 0, 1) := by decide +kernel
theorem dX4_init_79 : decode cX4_init 79 = .ok (.new 34, 3) := by decide +kernel
theorem dX4_init_82 : decode cX4_init 82 = .ok (.dup, 1) := by decide +kernel
theorem dX4_init_83 : decode cX4_init 83 = .ok (.invokespecial 36, 3) := by decide +kernel
theorem dX4_init_86 : decode cX4_init 86 = .ok (.putfield 37, 3) := by decide +kernel
theorem dX4_init_89 : decode cX4_init 89 = .ok (.aload_n 0, 1) := by decide +kernel
theorem dX4_init_90 : decode cX4_init 90 = .ok (.new 41, 3) := by decide +kernel
theorem dX4_init_93 : decode cX4_init 93 = .ok (.dup, 1) := by decide +kernel
theorem dX4_init_94 : decode cX4_init 94 = .ok (.invokespecial 43, 3) := by decide +kernel
theorem dX4_init_97 : decode cX4_init 97 = .ok (.putfield 44, 3) := by decide +kernel
theorem dX4_init_100 : decode cX4_init 100 = .ok (.aload_n 0, 1) := by decide +kernel
theorem dX4_init_101 : decode cX4_init 101 = .ok (.iconst 0, 1) := by decide +kernel
theorem dX4_init_102 : decode cX4_init 102 = .ok (.putfield 48, 3) := by decide +kernel
theorem dX4_init_105 : decode cX4_init 105 = .ok (.aload_n 0, 1) := by decide +kernel
theorem dX4_init_106 : decode cX4_init 106 = .ok (.iconst (-1), 1) := by decide +kernel
theorem dX4_init_107 : decode cX4_init 107 = .ok (.putfield 52, 3) := by decide +kernel
theorem dX4_init_110 : decode cX4_init 110 = .ok (.return_, 1) := by decide +kernel
set_option maxRecDepth 20000 in
theorem ggX4_feed_X1_addLetter : GoodIn wsX4_feed wsX1_addLetter := goodIn_r _ [8, 9, 10, 20, 21, 22, 23, 24, 25, 26, 27, 28, 29] rfl (by decide +kernel)
set_option maxRecDepth 20000 in
theorem gX4_feed_X1_addLetter : GoodIn wsX4_feed (wsV RX4 57 RX1 yX1_addLetter wsX1_addLetter) := goodIn_app (goodIn_r _ [4, 5, 6, 7] rfl (by decide +kernel)) ggX4_feed_X1_addLetter
theorem dX4_feed_0 : decode cX4_feed 0 = .ok (.iload_n 1, 1) := by decide +kernel
theorem dX4_feed_1 : decode cX4_feed 1 = .ok (.ifCond .lt 10, 3) := by decide +kernel
theorem dX4_feed_4 : decode cX4_feed 4 = .ok (.iload_n 1, 1) := by decide +kernel
theorem dX4_feed_5 : decode cX4_feed 5 = .ok (.sipush 255, 3) := by decide +kernel
theorem dX4_feed_8 : decode cX4_feed 8 = .ok (.if_icmp .le 6, 3) := by decide +kernel
theorem dX4_feed_11 : decode cX4_feed 11 = .ok (.ldc 56, 2) := by decide +kernel
theorem dX4_feed_13 : decode cX4_feed 13 = .ok (.ireturn, 1) := by decide +kernel
theorem dX4_feed_14 : decode cX4_feed 14 = .ok (.aload_n 0, 1) := by decide +kernel
theorem dX4_feed_15 : decode cX4_feed 15 = .ok (.getfield 30, 3) := by decide +kernel
theorem dX4_feed_18 : decode cX4_feed 18 = .ok (.iload_n 1, 1) := by decide +kernel
theorem dX4_feed_19 : decode cX4_feed 19 = .ok (.invokevirtual 57, 3) := by decide +kernel
theorem dX4_feed_22 : decode cX4_feed 22 = .ok (.ifCond .eq 13, 3) := by decide +kernel
theorem dX4_feed_25 : decode cX4_feed 25 = .ok (.aload_n 0, 1) := by decide +kernel
theorem dX4_feed_26 : decode cX4_feed 26 = .ok (.getfield 30, 3) := by decide +kernel
theorem dX4_feed_29 : decode cX4_feed 29 = .ok (.getfield 61, 3) := by decide +kernel
theorem dX4_feed_32 : decode cX4_feed 32 = .ok (.goto 5, 3) := by decide +kernel
theorem dX4_feed_35 : decode cX4_feed 35 = .ok (.ldc 64, 2) := by decide +kernel
theorem dX4_feed_37 : decode cX4_feed 37 = .ok (.ireturn, 1) := by decide +kernel
set_option maxRecDepth 20000 in
theorem ggX4_weave_X1_readAll : GoodIn wsX4_weave wsX1_readAll := goodIn_r _ [9, 10, 11, 12, 13, 14, 15, 16, 17, 18, 19, 20, 21, 22, 23, 24, 25, 8, 26, 27, 28, 29, 30, 31, 32, 33, 34, 35, 36, 37, 38, 39, 40, 41, 42, 43, 44, 45, 46, 47, 48, 49, 50, 51, 52, 53, 54, 55, 56, 57, 58, 59, 60, 61, 62, 63, 64, 65, 66, 67, 68, 69, 70, 71, 72, 73, 74, 75, 76, 77, 78, 79, 80, 81, 82, 83, 84, 85, 86, 87, 88, 89, 90, 91, 92, 93, 94, 95, 96, 97, 98, 99, 100, 101, 102, 103, 104, 105, 106, 107, 108, 109, 110, 111, 112, 113, 114, 115, 116, 117, 118, 119, 120, 121, 122, 123, 124, 125, 126, 127, 128, 129, 130, 131, 132, 133, 152, 153, 154, 155, 156, 157, 158, 159, 160, 161, 162, 163, 164, 165, 166, 167, 168, 169, 170] rfl (by decide +kernel)
set_option maxRecDepth 20000 in
theorem gX4_weave_X1_readAll : GoodIn wsX4_weave (wsV RX4 65 RX1 yX1_readAll wsX1_readAll) := goodIn_app (goodIn_r _ [5, 6, 7, 8] rfl (by decide +kernel)) ggX4_weave_X1_readAll
set_option maxRecDepth 20000 in
theorem ggX4_weave_X3_become : GoodIn wsX4_weave wsX3_become := goodIn_r _ [137, 21, 75, 130, 131, 132, 133, 76, 77, 82, 22, 123, 124, 125, 162, 163, 164, 165, 166, 167, 168, 169, 170] rfl (by decide +kernel)
set_option maxRecDepth 20000 in
theorem gX4_weave_X3_become : GoodIn wsX4_weave (wsV RX4 75 RX3 yX3_become wsX3_become) := goodIn_app (goodIn_r _ [134, 135, 136, 19] rfl (by decide +kernel)) ggX4_weave_X3_become
set_option maxRecDepth 20000 in
theorem ggX4_weave_X4_forgetImages : GoodIn wsX4_weave wsX4_forgetImages := goodIn_r _ [141, 142, 143, 144, 145, 146, 147, 148, 149, 150, 151] rfl (by decide +kernel)
set_option maxRecDepth 20000 in
theorem gX4_weave_X4_forgetImages : GoodIn wsX4_weave (wsV RX4 79 RX4 yX4_forgetImages wsX4_forgetImages) := goodIn_app (goodIn_r _ [138, 139, 140, 110] rfl (by decide +kernel)) ggX4_weave_X4_forgetImages
theorem dX4_weave_0 : decode cX4_weave 0 = .ok (.aload_n 0, 1) := by decide +kernel
theorem dX4_weave_1 : decode cX4_weave 1 = .ok (.getfield 30, 3) := by decide +kernel
theorem dX4_weave_4 : decode cX4_weave 4 = .ok (.invokevirtual 65, 3) := by decide +kernel
theorem dX4_weave_7 : decode cX4_weave 7 = .ok (.istore_n 1, 1) := by decide +kernel
theorem dX4_weave_8 : decode cX4_weave 8 = .ok (.aload_n 0, 1) := by decide +kernel
theorem dX4_weave_9 : decode cX4_weave 9 = .ok (.aload_n 0, 1) := by decide +kernel
theorem dX4_weave_10 : decode cX4_weave 10 = .ok (.getfield 30, 3) := by decide +kernel
theorem dX4_weave_13 : decode cX4_weave 13 = .ok (.getfield 69, 3) := by decide +kernel
theorem dX4_weave_16 : decode cX4_weave 16 = .ok (.putfield 52, 3) := by decide +kernel
theorem dX4_weave_19 : decode cX4_weave 19 = .ok (.iload_n 1, 1) := by decide +kernel
theorem dX4_weave_20 : decode cX4_weave 20 = .ok (.ifCond .eq 8, 3) := by decide +kernel
theorem dX4_weave_23 : decode cX4_weave 23 = .ok (.bipush (-10), 2) := by decide +kernel
theorem dX4_weave_25 : decode cX4_weave 25 = .ok (.iload_n 1, 1) := by decide +kernel
theorem dX4_weave_26 : decode cX4_weave 26 = .ok (.isub, 1) := by decide +kernel
theorem dX4_weave_27 : decode cX4_weave 27 = .ok (.ireturn, 1) := by decide +kernel
theorem dX4_weave_28 : decode cX4_weave 28 = .ok (.aload_n 0, 1) := by decide +kernel
theorem dX4_weave_29 : decode cX4_weave 29 = .ok (.getfield 10, 3) := by decide +kernel
theorem dX4_weave_32 : decode cX4_weave 32 = .ok (.aload_n 0, 1) := by decide +kernel
theorem dX4_weave_33 : decode cX4_weave 33 = .ok (.getfield 30, 3) := by decide +kernel
theorem dX4_weave_36 : decode cX4_weave 36 = .ok (.getfield 72, 3) := by decide +kernel
theorem dX4_weave_39 : decode cX4_weave 39 = .ok (.invokevirtual 75, 3) := by decide +kernel
theorem dX4_weave_42 : decode cX4_weave 42 = .ok (.aload_n 0, 1) := by decide +kernel
theorem dX4_weave_43 : decode cX4_weave 43 = .ok (.iconst 0, 1) := by decide +kernel
theorem dX4_weave_44 : decode cX4_weave 44 = .ok (.putfield 48, 3) := by decide +kernel
theorem dX4_weave_47 : decode cX4_weave 47 = .ok (.aload_n 0, 1) := by decide +kernel
theorem dX4_weave_48 : decode cX4_weave 48 = .ok (.invokevirtual 79, 3) := by decide +kernel
theorem dX4_weave_51 : decode cX4_weave 51 = .ok (.aload_n 0, 1) := by decide +kernel
theorem dX4_weave_52 : decode cX4_weave 52 = .ok (.getfield 10, 3) := by decide +kernel
theorem dX4_weave_55 : decode cX4_weave 55 = .ok (.getfield 82, 3) := by decide +kernel
theorem dX4_weave_58 : decode cX4_weave 58 = .ok (.ireturn, 1) := by decide +kernel
theorem dX4_fault_0 : decode cX4_fault 0 = .ok (.aload_n 0, 1) := by decide +kernel
theorem dX4_fault_1 : decode cX4_fault 1 = .ok (.getfield 52, 3) := by decide +kernel
theorem dX4_fault_4 : decode cX4_fault 4 = .ok (.ireturn, 1) := by decide +kernel
set_option maxRecDepth 20000 in
theorem ggX4_told_X3_parentOf : GoodIn wsX4_told wsX3_parentOf := goodIn_r _ [10, 11, 91, 92, 93, 94, 95, 96, 97, 98, 99] rfl (by decide +kernel)
set_option maxRecDepth 20000 in
theorem gX4_told_X3_parentOf : GoodIn wsX4_told (wsV RX4 88 RX3 yX3_parentOf wsX3_parentOf) := goodIn_app (goodIn_r _ [6, 7, 8, 9] rfl (by decide +kernel)) ggX4_told_X3_parentOf
set_option maxRecDepth 20000 in
theorem ggX4_told_X4_openLines : GoodIn wsX4_told wsX4_openLines := goodIn_r _ [16, 1, 17, 18, 19, 15, 20, 21, 22, 23, 9, 24, 25, 26, 27, 28, 29, 30, 31, 32, 33, 34, 35, 36, 37, 38, 39, 40, 82, 83, 84, 85, 86, 87, 88, 89, 90, 91, 92, 93, 94, 95, 96, 97, 98, 99] rfl (by decide +kernel)
set_option maxRecDepth 20000 in
theorem gX4_told_X4_openLines : GoodIn wsX4_told (wsV RX4 92 RX4 yX4_openLines wsX4_openLines) := goodIn_app (goodIn_r _ [12, 13, 14, 15] rfl (by decide +kernel)) ggX4_told_X4_openLines
set_option maxRecDepth 20000 in
theorem ggX4_told_X3_countBlocks : GoodIn wsX4_told wsX3_countBlocks := goodIn_r _ [44, 34, 45, 46, 47, 9, 48, 39, 40, 91, 92, 93, 94, 95, 96, 97, 98, 99] rfl (by decide +kernel)
set_option maxRecDepth 20000 in
theorem gX4_told_X3_countBlocks : GoodIn wsX4_told (wsV RX4 95 RX3 yX3_countBlocks wsX3_countBlocks) := goodIn_app (goodIn_r _ [41, 42, 43, 9] rfl (by decide +kernel)) ggX4_told_X3_countBlocks
set_option maxRecDepth 20000 in
theorem ggX4_told_X3_greatestNesting : GoodIn wsX4_told wsX3_greatestNesting := goodIn_r _ [52, 34, 40, 53, 54, 55, 56, 57, 58, 59, 60, 61, 62, 63, 91, 92, 93, 94, 95, 96, 97, 98, 99] rfl (by decide +kernel)
set_option maxRecDepth 20000 in
theorem gX4_told_X3_greatestNesting : GoodIn wsX4_told (wsV RX4 98 RX3 yX3_greatestNesting wsX3_greatestNesting) := goodIn_app (goodIn_r _ [49, 50, 51, 9] rfl (by decide +kernel)) ggX4_told_X3_greatestNesting
set_option maxRecDepth 20000 in
theorem ggX4_told_X3_countGone : GoodIn wsX4_told wsX3_countGone := goodIn_r _ [67, 34, 68, 69, 70, 9, 71, 72, 25, 35, 36, 37, 38, 39, 40, 73, 74, 75, 91, 92, 93, 94, 95, 96, 97, 98, 99] rfl (by decide +kernel)
set_option maxRecDepth 20000 in
theorem gX4_told_X3_countGone : GoodIn wsX4_told (wsV RX4 101 RX3 yX3_countGone wsX3_countGone) := goodIn_app (goodIn_r _ [64, 65, 66, 9] rfl (by decide +kernel)) ggX4_told_X3_countGone
set_option maxRecDepth 20000 in
theorem ggX4_told_X2_countThere : GoodIn wsX4_told wsX2_countThere := goodIn_r _ [80, 81, 110, 111] rfl (by decide +kernel)
set_option maxRecDepth 20000 in
theorem gX4_told_X2_countThere : GoodIn wsX4_told (wsV RX4 104 RX2 yX2_countThere wsX2_countThere) := goodIn_app (goodIn_r _ [76, 77, 78, 79] rfl (by decide +kernel)) ggX4_told_X2_countThere
theorem dX4_told_0 : decode cX4_told 0 = .ok (.iload_n 1, 1) := by decide +kernel
theorem dX4_told_1 : decode cX4_told 1 = .ok (.tableswitch 166 0 9 #[55, 63, 71, 97, 110, 126, 134, 142, 150, 158], 55) := by decide +kernel
theorem dX4_told_56 : decode cX4_told 56 = .ok (.aload_n 0, 1) := by decide +kernel
theorem dX4_told_57 : decode cX4_told 57 = .ok (.getfield 10, 3) := by decide +kernel
theorem dX4_told_60 : decode cX4_told 60 = .ok (.getfield 82, 3) := by decide +kernel
theorem dX4_told_63 : decode cX4_told 63 = .ok (.ireturn, 1) := by decide +kernel
theorem dX4_told_64 : decode cX4_told 64 = .ok (.aload_n 0, 1) := by decide +kernel
theorem dX4_told_65 : decode cX4_told 65 = .ok (.getfield 10, 3) := by decide +kernel
theorem dX4_told_68 : decode cX4_told 68 = .ok (.getfield 85, 3) := by decide +kernel
theorem dX4_told_71 : decode cX4_told 71 = .ok (.ireturn, 1) := by decide +kernel
theorem dX4_told_72 : decode cX4_told 72 = .ok (.aload_n 0, 1) := by decide +kernel
theorem dX4_told_73 : decode cX4_told 73 = .ok (.getfield 48, 3) := by decide +kernel
theorem dX4_told_76 : decode cX4_told 76 = .ok (.ifCond .eq 20, 3) := by decide +kernel
theorem dX4_told_79 : decode cX4_told 79 = .ok (.aload_n 0, 1) := by decide +kernel
theorem dX4_told_80 : decode cX4_told 80 = .ok (.getfield 10, 3) := by decide +kernel
theorem dX4_told_83 : decode cX4_told 83 = .ok (.aload_n 0, 1) := by decide +kernel
theorem dX4_told_84 : decode cX4_told 84 = .ok (.getfield 10, 3) := by decide +kernel
theorem dX4_told_87 : decode cX4_told 87 = .ok (.getfield 82, 3) := by decide +kernel
theorem dX4_told_90 : decode cX4_told 90 = .ok (.invokevirtual 88, 3) := by decide +kernel
theorem dX4_told_93 : decode cX4_told 93 = .ok (.goto 4, 3) := by decide +kernel
theorem dX4_told_96 : decode cX4_told 96 = .ok (.iconst (-1), 1) := by decide +kernel
theorem dX4_told_97 : decode cX4_told 97 = .ok (.ireturn, 1) := by decide +kernel
theorem dX4_told_98 : decode cX4_told 98 = .ok (.aload_n 0, 1) := by decide +kernel
theorem dX4_told_99 : decode cX4_told 99 = .ok (.getfield 48, 3) := by decide +kernel
theorem dX4_told_102 : decode cX4_told 102 = .ok (.ifCond .eq 7, 3) := by decide +kernel
theorem dX4_told_105 : decode cX4_told 105 = .ok (.iconst 1, 1) := by decide +kernel
theorem dX4_told_106 : decode cX4_told 106 = .ok (.goto 4, 3) := by decide +kernel
theorem dX4_told_109 : decode cX4_told 109 = .ok (.iconst 0, 1) := by decide +kernel
theorem dX4_told_110 : decode cX4_told 110 = .ok (.ireturn, 1) := by decide +kernel
theorem dX4_told_111 : decode cX4_told 111 = .ok (.aload_n 0, 1) := by decide +kernel
theorem dX4_told_112 : decode cX4_told 112 = .ok (.getfield 48, 3) := by decide +kernel
theorem dX4_told_115 : decode cX4_told 115 = .ok (.ifCond .eq 10, 3) := by decide +kernel
theorem dX4_told_118 : decode cX4_told 118 = .ok (.aload_n 0, 1) := by decide +kernel
theorem dX4_told_119 : decode cX4_told 119 = .ok (.invokevirtual 92, 3) := by decide +kernel
theorem dX4_told_122 : decode cX4_told 122 = .ok (.goto 4, 3) := by decide +kernel
theorem dX4_told_125 : decode cX4_told 125 = .ok (.iconst 0, 1) := by decide +kernel
theorem dX4_told_126 : decode cX4_told 126 = .ok (.ireturn, 1) := by decide +kernel
theorem dX4_told_127 : decode cX4_told 127 = .ok (.aload_n 0, 1) := by decide +kernel
theorem dX4_told_128 : decode cX4_told 128 = .ok (.getfield 10, 3) := by decide +kernel
theorem dX4_told_131 : decode cX4_told 131 = .ok (.invokevirtual 95, 3) := by decide +kernel
theorem dX4_told_134 : decode cX4_told 134 = .ok (.ireturn, 1) := by decide +kernel
theorem dX4_told_135 : decode cX4_told 135 = .ok (.aload_n 0, 1) := by decide +kernel
theorem dX4_told_136 : decode cX4_told 136 = .ok (.getfield 10, 3) := by decide +kernel
theorem dX4_told_139 : decode cX4_told 139 = .ok (.invokevirtual 98, 3) := by decide +kernel
theorem dX4_told_142 : decode cX4_told 142 = .ok (.ireturn, 1) := by decide +kernel
theorem dX4_told_143 : decode cX4_told 143 = .ok (.aload_n 0, 1) := by decide +kernel
theorem dX4_told_144 : decode cX4_told 144 = .ok (.getfield 10, 3) := by decide +kernel
theorem dX4_told_147 : decode cX4_told 147 = .ok (.invokevirtual 101, 3) := by decide +kernel
theorem dX4_told_150 : decode cX4_told 150 = .ok (.ireturn, 1) := by decide +kernel
theorem dX4_told_151 : decode cX4_told 151 = .ok (.aload_n 0, 1) := by decide +kernel
theorem dX4_told_152 : decode cX4_told 152 = .ok (.getfield 30, 3) := by decide +kernel
theorem dX4_told_155 : decode cX4_told 155 = .ok (.getfield 61, 3) := by decide +kernel
theorem dX4_told_158 : decode cX4_told 158 = .ok (.ireturn, 1) := by decide +kernel
theorem dX4_told_159 : decode cX4_told 159 = .ok (.aload_n 0, 1) := by decide +kernel
theorem dX4_told_160 : decode cX4_told 160 = .ok (.getfield 37, 3) := by decide +kernel
theorem dX4_told_163 : decode cX4_told 163 = .ok (.invokevirtual 104, 3) := by decide +kernel
theorem dX4_told_166 : decode cX4_told 166 = .ok (.ireturn, 1) := by decide +kernel
theorem dX4_told_167 : decode cX4_told 167 = .ok (.ldc 56, 2) := by decide +kernel
theorem dX4_told_169 : decode cX4_told 169 = .ok (.ireturn, 1) := by decide +kernel
set_option maxRecDepth 20000 in
theorem ggX4_version_X3_hasVersion : GoodIn wsX4_version wsX3_hasVersion := goodIn_r _ [8, 9, 48, 49, 50, 51, 52, 53, 54, 55, 56] rfl (by decide +kernel)
set_option maxRecDepth 20000 in
theorem gX4_version_X3_hasVersion : GoodIn wsX4_version (wsV RX4 107 RX3 yX3_hasVersion wsX3_hasVersion) := goodIn_app (goodIn_r _ [4, 5, 6, 7] rfl (by decide +kernel)) ggX4_version_X3_hasVersion
set_option maxRecDepth 20000 in
theorem ggX4_version_X3_countStanding : GoodIn wsX4_version wsX3_countStanding := goodIn_r _ [13, 14, 15, 16, 7, 17, 18, 19, 20, 21, 22, 23, 24, 48, 49, 50, 51, 52, 53, 54, 55, 56] rfl (by decide +kernel)
set_option maxRecDepth 20000 in
theorem gX4_version_X3_countStanding : GoodIn wsX4_version (wsV RX4 124 RX3 yX3_countStanding wsX3_countStanding) := goodIn_app (goodIn_r _ [10, 11, 12, 7] rfl (by decide +kernel)) ggX4_version_X3_countStanding
set_option maxRecDepth 20000 in
theorem ggX4_version_X3_countBrought : GoodIn wsX4_version wsX3_countBrought := goodIn_r _ [28, 18, 23, 48, 49, 50, 51, 52, 53, 54, 55, 56] rfl (by decide +kernel)
set_option maxRecDepth 20000 in
theorem gX4_version_X3_countBrought : GoodIn wsX4_version (wsV RX4 127 RX3 yX3_countBrought wsX3_countBrought) := goodIn_app (goodIn_r _ [25, 26, 27, 7] rfl (by decide +kernel)) ggX4_version_X3_countBrought
set_option maxRecDepth 20000 in
theorem ggX4_version_X3_countTaken : GoodIn wsX4_version wsX3_countTaken := goodIn_r _ [32, 18, 24, 33, 34, 7, 35, 36, 37, 38, 48, 49, 50, 51, 52, 53, 54, 55, 56] rfl (by decide +kernel)
set_option maxRecDepth 20000 in
theorem gX4_version_X3_countTaken : GoodIn wsX4_version (wsV RX4 130 RX3 yX3_countTaken wsX3_countTaken) := goodIn_app (goodIn_r _ [29, 30, 31, 7] rfl (by decide +kernel)) ggX4_version_X3_countTaken
theorem dX4_version_0 : decode cX4_version 0 = .ok (.aload_n 0, 1) := by decide +kernel
theorem dX4_version_1 : decode cX4_version 1 = .ok (.getfield 10, 3) := by decide +kernel
theorem dX4_version_4 : decode cX4_version 4 = .ok (.iload_n 1, 1) := by decide +kernel
theorem dX4_version_5 : decode cX4_version 5 = .ok (.invokevirtual 107, 3) := by decide +kernel
theorem dX4_version_8 : decode cX4_version 8 = .ok (.ifCond .ne 6, 3) := by decide +kernel
theorem dX4_version_11 : decode cX4_version 11 = .ok (.ldc 110, 2) := by decide +kernel
theorem dX4_version_13 : decode cX4_version 13 = .ok (.ireturn, 1) := by decide +kernel
theorem dX4_version_14 : decode cX4_version 14 = .ok (.iload_n 2, 1) := by decide +kernel
theorem dX4_version_15 : decode cX4_version 15 = .ok (.tableswitch 116 0 6 #[41, 51, 61, 71, 81, 98, 107], 41) := by decide +kernel
theorem dX4_version_56 : decode cX4_version 56 = .ok (.aload_n 0, 1) := by decide +kernel
theorem dX4_version_57 : decode cX4_version 57 = .ok (.getfield 10, 3) := by decide +kernel
theorem dX4_version_60 : decode cX4_version 60 = .ok (.getfield 111, 3) := by decide +kernel
theorem dX4_version_63 : decode cX4_version 63 = .ok (.iload_n 1, 1) := by decide +kernel
theorem dX4_version_64 : decode cX4_version 64 = .ok (.iaload, 1) := by decide +kernel
theorem dX4_version_65 : decode cX4_version 65 = .ok (.ireturn, 1) := by decide +kernel
theorem dX4_version_66 : decode cX4_version 66 = .ok (.aload_n 0, 1) := by decide +kernel
theorem dX4_version_67 : decode cX4_version 67 = .ok (.getfield 10, 3) := by decide +kernel
theorem dX4_version_70 : decode cX4_version 70 = .ok (.getfield 115, 3) := by decide +kernel
theorem dX4_version_73 : decode cX4_version 73 = .ok (.iload_n 1, 1) := by decide +kernel
theorem dX4_version_74 : decode cX4_version 74 = .ok (.iaload, 1) := by decide +kernel
theorem dX4_version_75 : decode cX4_version 75 = .ok (.ireturn, 1) := by decide +kernel
theorem dX4_version_76 : decode cX4_version 76 = .ok (.aload_n 0, 1) := by decide +kernel
theorem dX4_version_77 : decode cX4_version 77 = .ok (.getfield 10, 3) := by decide +kernel
theorem dX4_version_80 : decode cX4_version 80 = .ok (.getfield 118, 3) := by decide +kernel
theorem dX4_version_83 : decode cX4_version 83 = .ok (.iload_n 1, 1) := by decide +kernel
theorem dX4_version_84 : decode cX4_version 84 = .ok (.iaload, 1) := by decide +kernel
theorem dX4_version_85 : decode cX4_version 85 = .ok (.ireturn, 1) := by decide +kernel
theorem dX4_version_86 : decode cX4_version 86 = .ok (.aload_n 0, 1) := by decide +kernel
theorem dX4_version_87 : decode cX4_version 87 = .ok (.getfield 10, 3) := by decide +kernel
theorem dX4_version_90 : decode cX4_version 90 = .ok (.getfield 121, 3) := by decide +kernel
theorem dX4_version_93 : decode cX4_version 93 = .ok (.iload_n 1, 1) := by decide +kernel
theorem dX4_version_94 : decode cX4_version 94 = .ok (.iaload, 1) := by decide +kernel
theorem dX4_version_95 : decode cX4_version 95 = .ok (.ireturn, 1) := by decide +kernel
theorem dX4_version_96 : decode cX4_version 96 = .ok (.aload_n 0, 1) := by decide +kernel
theorem dX4_version_97 : decode cX4_version 97 = .ok (.getfield 10, 3) := by decide +kernel
theorem dX4_version_100 : decode cX4_version 100 = .ok (.aload_n 0, 1) := by decide +kernel
theorem dX4_version_101 : decode cX4_version 101 = .ok (.getfield 10, 3) := by decide +kernel
theorem dX4_version_104 : decode cX4_version 104 = .ok (.getfield 115, 3) := by decide +kernel
theorem dX4_version_107 : decode cX4_version 107 = .ok (.iload_n 1, 1) := by decide +kernel
theorem dX4_version_108 : decode cX4_version 108 = .ok (.iaload, 1) := by decide +kernel
theorem dX4_version_109 : decode cX4_version 109 = .ok (.invokevirtual 124, 3) := by decide +kernel
theorem dX4_version_112 : decode cX4_version 112 = .ok (.ireturn, 1) := by decide +kernel
theorem dX4_version_113 : decode cX4_version 113 = .ok (.aload_n 0, 1) := by decide +kernel
theorem dX4_version_114 : decode cX4_version 114 = .ok (.getfield 10, 3) := by decide +kernel
theorem dX4_version_117 : decode cX4_version 117 = .ok (.iload_n 1, 1) := by decide +kernel
theorem dX4_version_118 : decode cX4_version 118 = .ok (.invokevirtual 127, 3) := by decide +kernel
theorem dX4_version_121 : decode cX4_version 121 = .ok (.ireturn, 1) := by decide +kernel
theorem dX4_version_122 : decode cX4_version 122 = .ok (.aload_n 0, 1) := by decide +kernel
theorem dX4_version_123 : decode cX4_version 123 = .ok (.getfield 10, 3) := by decide +kernel
theorem dX4_version_126 : decode cX4_version 126 = .ok (.iload_n 1, 1) := by decide +kernel
theorem dX4_version_127 : decode cX4_version 127 = .ok (.invokevirtual 130, 3) := by decide +kernel
theorem dX4_version_130 : decode cX4_version 130 = .ok (.ireturn, 1) := by decide +kernel
theorem dX4_version_131 : decode cX4_version 131 = .ok (.ldc 56, 2) := by decide +kernel
theorem dX4_version_133 : decode cX4_version 133 = .ok (.ireturn, 1) := by decide +kernel
set_option maxRecDepth 20000 in
theorem ggX4_line_X3_hasLine : GoodIn wsX4_line wsX3_hasLine := goodIn_r _ [8, 9, 34, 35, 36, 37, 38, 39, 40, 41, 42] rfl (by decide +kernel)
set_option maxRecDepth 20000 in
theorem gX4_line_X3_hasLine : GoodIn wsX4_line (wsV RX4 133 RX3 yX3_hasLine wsX3_hasLine) := goodIn_app (goodIn_r _ [4, 5, 6, 7] rfl (by decide +kernel)) ggX4_line_X3_hasLine
set_option maxRecDepth 20000 in
theorem ggX4_line_X3_lifeOf : GoodIn wsX4_line wsX3_lifeOf := goodIn_r _ [13, 14, 15, 16, 17, 18, 7, 19, 20, 21, 22, 23, 24, 34, 35, 36, 37, 38, 39, 40, 41, 42] rfl (by decide +kernel)
set_option maxRecDepth 20000 in
theorem gX4_line_X3_lifeOf : GoodIn wsX4_line (wsV RX4 145 RX3 yX3_lifeOf wsX3_lifeOf) := goodIn_app (goodIn_r _ [10, 11, 12, 7] rfl (by decide +kernel)) ggX4_line_X3_lifeOf
theorem dX4_line_0 : decode cX4_line 0 = .ok (.aload_n 0, 1) := by decide +kernel
theorem dX4_line_1 : decode cX4_line 1 = .ok (.getfield 10, 3) := by decide +kernel
theorem dX4_line_4 : decode cX4_line 4 = .ok (.iload_n 1, 1) := by decide +kernel
theorem dX4_line_5 : decode cX4_line 5 = .ok (.invokevirtual 133, 3) := by decide +kernel
theorem dX4_line_8 : decode cX4_line 8 = .ok (.ifCond .ne 6, 3) := by decide +kernel
theorem dX4_line_11 : decode cX4_line 11 = .ok (.ldc 110, 2) := by decide +kernel
theorem dX4_line_13 : decode cX4_line 13 = .ok (.ireturn, 1) := by decide +kernel
theorem dX4_line_14 : decode cX4_line 14 = .ok (.iload_n 2, 1) := by decide +kernel
theorem dX4_line_15 : decode cX4_line 15 = .ok (.tableswitch 68 0 3 #[29, 39, 49, 59], 29) := by decide +kernel
theorem dX4_line_44 : decode cX4_line 44 = .ok (.aload_n 0, 1) := by decide +kernel
theorem dX4_line_45 : decode cX4_line 45 = .ok (.getfield 10, 3) := by decide +kernel
theorem dX4_line_48 : decode cX4_line 48 = .ok (.getfield 136, 3) := by decide +kernel
theorem dX4_line_51 : decode cX4_line 51 = .ok (.iload_n 1, 1) := by decide +kernel
theorem dX4_line_52 : decode cX4_line 52 = .ok (.iaload, 1) := by decide +kernel
theorem dX4_line_53 : decode cX4_line 53 = .ok (.ireturn, 1) := by decide +kernel
theorem dX4_line_54 : decode cX4_line 54 = .ok (.aload_n 0, 1) := by decide +kernel
theorem dX4_line_55 : decode cX4_line 55 = .ok (.getfield 10, 3) := by decide +kernel
theorem dX4_line_58 : decode cX4_line 58 = .ok (.getfield 139, 3) := by decide +kernel
theorem dX4_line_61 : decode cX4_line 61 = .ok (.iload_n 1, 1) := by decide +kernel
theorem dX4_line_62 : decode cX4_line 62 = .ok (.iaload, 1) := by decide +kernel
theorem dX4_line_63 : decode cX4_line 63 = .ok (.ireturn, 1) := by decide +kernel
theorem dX4_line_64 : decode cX4_line 64 = .ok (.aload_n 0, 1) := by decide +kernel
theorem dX4_line_65 : decode cX4_line 65 = .ok (.getfield 10, 3) := by decide +kernel
theorem dX4_line_68 : decode cX4_line 68 = .ok (.getfield 142, 3) := by decide +kernel
theorem dX4_line_71 : decode cX4_line 71 = .ok (.iload_n 1, 1) := by decide +kernel
theorem dX4_line_72 : decode cX4_line 72 = .ok (.iaload, 1) := by decide +kernel
theorem dX4_line_73 : decode cX4_line 73 = .ok (.ireturn, 1) := by decide +kernel
theorem dX4_line_74 : decode cX4_line 74 = .ok (.aload_n 0, 1) := by decide +kernel
theorem dX4_line_75 : decode cX4_line 75 = .ok (.getfield 10, 3) := by decide +kernel
theorem dX4_line_78 : decode cX4_line 78 = .ok (.iload_n 1, 1) := by decide +kernel
theorem dX4_line_79 : decode cX4_line 79 = .ok (.invokevirtual 145, 3) := by decide +kernel
theorem dX4_line_82 : decode cX4_line 82 = .ok (.ireturn, 1) := by decide +kernel
theorem dX4_line_83 : decode cX4_line 83 = .ok (.ldc 56, 2) := by decide +kernel
theorem dX4_line_85 : decode cX4_line 85 = .ok (.ireturn, 1) := by decide +kernel
set_option maxRecDepth 20000 in
theorem ggX4_text_X3_hasVersion : GoodIn wsX4_text wsX3_hasVersion := goodIn_r _ [10, 11, 41, 42, 43, 44, 45, 46, 47, 48, 49] rfl (by decide +kernel)
set_option maxRecDepth 20000 in
theorem gX4_text_X3_hasVersion : GoodIn wsX4_text (wsV RX4 107 RX3 yX3_hasVersion wsX3_hasVersion) := goodIn_app (goodIn_r _ [6, 7, 8, 9] rfl (by decide +kernel)) ggX4_text_X3_hasVersion
set_option maxRecDepth 20000 in
theorem ggX4_text_X3_changesOf : GoodIn wsX4_text wsX3_changesOf := goodIn_r _ [15, 16, 41, 42, 43, 44, 45, 46, 47, 48, 49] rfl (by decide +kernel)
set_option maxRecDepth 20000 in
theorem gX4_text_X3_changesOf : GoodIn wsX4_text (wsV RX4 149 RX3 yX3_changesOf wsX3_changesOf) := goodIn_app (goodIn_r _ [12, 13, 14, 9] rfl (by decide +kernel)) ggX4_text_X3_changesOf
set_option maxRecDepth 20000 in
theorem ggX4_text_X3_findStanding : GoodIn wsX4_text wsX3_findStanding := goodIn_r _ [20, 21, 22, 23, 24, 9, 25, 26, 27, 41, 42, 43, 44, 45, 46, 47, 48, 49] rfl (by decide +kernel)
set_option maxRecDepth 20000 in
theorem gX4_text_X3_findStanding : GoodIn wsX4_text (wsV RX4 152 RX3 yX3_findStanding wsX3_findStanding) := goodIn_app (goodIn_r _ [17, 18, 19, 9] rfl (by decide +kernel)) ggX4_text_X3_findStanding
set_option maxRecDepth 20000 in
theorem ggX4_text_X3_hasLine : GoodIn wsX4_text wsX3_hasLine := goodIn_r _ [31, 21, 41, 42, 43, 44, 45, 46, 47, 48, 49] rfl (by decide +kernel)
set_option maxRecDepth 20000 in
theorem gX4_text_X3_hasLine : GoodIn wsX4_text (wsV RX4 133 RX3 yX3_hasLine wsX3_hasLine) := goodIn_app (goodIn_r _ [28, 29, 30, 9] rfl (by decide +kernel)) ggX4_text_X3_hasLine
theorem dX4_text_0 : decode cX4_text 0 = .ok (.iload_n 1, 1) := by decide +kernel
theorem dX4_text_1 : decode cX4_text 1 = .ok (.iconst (-1), 1) := by decide +kernel
theorem dX4_text_2 : decode cX4_text 2 = .ok (.if_icmp .eq 17, 3) := by decide +kernel
theorem dX4_text_5 : decode cX4_text 5 = .ok (.aload_n 0, 1) := by decide +kernel
theorem dX4_text_6 : decode cX4_text 6 = .ok (.getfield 10, 3) := by decide +kernel
theorem dX4_text_9 : decode cX4_text 9 = .ok (.iload_n 1, 1) := by decide +kernel
theorem dX4_text_10 : decode cX4_text 10 = .ok (.invokevirtual 107, 3) := by decide +kernel
theorem dX4_text_13 : decode cX4_text 13 = .ok (.ifCond .ne 6, 3) := by decide +kernel
theorem dX4_text_16 : decode cX4_text 16 = .ok (.ldc 110, 2) := by decide +kernel
theorem dX4_text_18 : decode cX4_text 18 = .ok (.ireturn, 1) := by decide +kernel
theorem dX4_text_19 : decode cX4_text 19 = .ok (.iload_n 2, 1) := by decide +kernel
theorem dX4_text_20 : decode cX4_text 20 = .ok (.ifCond .lt 12, 3) := by decide +kernel
theorem dX4_text_23 : decode cX4_text 23 = .ok (.iload_n 3, 1) := by decide +kernel
theorem dX4_text_24 : decode cX4_text 24 = .ok (.ifCond .lt 8, 3) := by decide +kernel
theorem dX4_text_27 : decode cX4_text 27 = .ok (.iload_n 3, 1) := by decide +kernel
theorem dX4_text_28 : decode cX4_text 28 = .ok (.iconst 2, 1) := by decide +kernel
theorem dX4_text_29 : decode cX4_text 29 = .ok (.if_icmp .le 6, 3) := by decide +kernel
theorem dX4_text_32 : decode cX4_text 32 = .ok (.ldc 56, 2) := by decide +kernel
theorem dX4_text_34 : decode cX4_text 34 = .ok (.ireturn, 1) := by decide +kernel
theorem dX4_text_35 : decode cX4_text 35 = .ok (.iload_n 1, 1) := by decide +kernel
theorem dX4_text_36 : decode cX4_text 36 = .ok (.iconst (-1), 1) := by decide +kernel
theorem dX4_text_37 : decode cX4_text 37 = .ok (.if_icmp .ne 13, 3) := by decide +kernel
theorem dX4_text_40 : decode cX4_text 40 = .ok (.aload_n 0, 1) := by decide +kernel
theorem dX4_text_41 : decode cX4_text 41 = .ok (.getfield 48, 3) := by decide +kernel
theorem dX4_text_44 : decode cX4_text 44 = .ok (.ifCond .ne 6, 3) := by decide +kernel
theorem dX4_text_47 : decode cX4_text 47 = .ok (.ldc 148, 2) := by decide +kernel
theorem dX4_text_49 : decode cX4_text 49 = .ok (.ireturn, 1) := by decide +kernel
theorem dX4_text_50 : decode cX4_text 50 = .ok (.aload_n 0, 1) := by decide +kernel
theorem dX4_text_51 : decode cX4_text 51 = .ok (.getfield 10, 3) := by decide +kernel
theorem dX4_text_54 : decode cX4_text 54 = .ok (.aload_n 0, 1) := by decide +kernel
theorem dX4_text_55 : decode cX4_text 55 = .ok (.getfield 10, 3) := by decide +kernel
theorem dX4_text_58 : decode cX4_text 58 = .ok (.iload_n 1, 1) := by decide +kernel
theorem dX4_text_59 : decode cX4_text 59 = .ok (.iconst (-1), 1) := by decide +kernel
theorem dX4_text_60 : decode cX4_text 60 = .ok (.if_icmp .ne 13, 3) := by decide +kernel
theorem dX4_text_63 : decode cX4_text 63 = .ok (.aload_n 0, 1) := by decide +kernel
theorem dX4_text_64 : decode cX4_text 64 = .ok (.getfield 10, 3) := by decide +kernel
theorem dX4_text_67 : decode cX4_text 67 = .ok (.getfield 82, 3) := by decide +kernel
theorem dX4_text_70 : decode cX4_text 70 = .ok (.goto 4, 3) := by decide +kernel
theorem dX4_text_73 : decode cX4_text 73 = .ok (.iload_n 1, 1) := by decide +kernel
theorem dX4_text_74 : decode cX4_text 74 = .ok (.invokevirtual 149, 3) := by decide +kernel
theorem dX4_text_77 : decode cX4_text 77 = .ok (.iload_n 2, 1) := by decide +kernel
theorem dX4_text_78 : decode cX4_text 78 = .ok (.invokevirtual 152, 3) := by decide +kernel
theorem dX4_text_81 : decode cX4_text 81 = .ok (.istore 4, 2) := by decide +kernel
theorem dX4_text_83 : decode cX4_text 83 = .ok (.aload_n 0, 1) := by decide +kernel
theorem dX4_text_84 : decode cX4_text 84 = .ok (.getfield 10, 3) := by decide +kernel
theorem dX4_text_87 : decode cX4_text 87 = .ok (.iload 4, 2) := by decide +kernel
theorem dX4_text_89 : decode cX4_text 89 = .ok (.invokevirtual 133, 3) := by decide +kernel
theorem dX4_text_92 : decode cX4_text 92 = .ok (.ifCond .ne 5, 3) := by decide +kernel
theorem dX4_text_95 : decode cX4_text 95 = .ok (.iconst (-1), 1) := by decide +kernel
theorem dX4_text_96 : decode cX4_text 96 = .ok (.ireturn, 1) := by decide +kernel
theorem dX4_text_97 : decode cX4_text 97 = .ok (.iload_n 3, 1) := by decide +kernel
theorem dX4_text_98 : decode cX4_text 98 = .ok (.lookupswitch 48 #[(0, 26), (1, 37)], 26) := by decide +kernel
theorem dX4_text_124 : decode cX4_text 124 = .ok (.aload_n 0, 1) := by decide +kernel
theorem dX4_text_125 : decode cX4_text 125 = .ok (.getfield 10, 3) := by decide +kernel
theorem dX4_text_128 : decode cX4_text 128 = .ok (.getfield 136, 3) := by decide +kernel
theorem dX4_text_131 : decode cX4_text 131 = .ok (.iload 4, 2) := by decide +kernel
theorem dX4_text_133 : decode cX4_text 133 = .ok (.iaload, 1) := by decide +kernel
theorem dX4_text_134 : decode cX4_text 134 = .ok (.ireturn, 1) := by decide +kernel
theorem dX4_text_135 : decode cX4_text 135 = .ok (.aload_n 0, 1) := by decide +kernel
theorem dX4_text_136 : decode cX4_text 136 = .ok (.getfield 10, 3) := by decide +kernel
theorem dX4_text_139 : decode cX4_text 139 = .ok (.getfield 139, 3) := by decide +kernel
theorem dX4_text_142 : decode cX4_text 142 = .ok (.iload 4, 2) := by decide +kernel
theorem dX4_text_144 : decode cX4_text 144 = .ok (.iaload, 1) := by decide +kernel
theorem dX4_text_145 : decode cX4_text 145 = .ok (.ireturn, 1) := by decide +kernel
theorem dX4_text_146 : decode cX4_text 146 = .ok (.iload 4, 2) := by decide +kernel
theorem dX4_text_148 : decode cX4_text 148 = .ok (.ireturn, 1) := by decide +kernel
set_option maxRecDepth 20000 in
theorem ggX4_open_X3_hasVersion : GoodIn wsX4_open wsX3_hasVersion := goodIn_r _ [11, 12, 53, 54, 55, 56, 57, 58, 59, 60, 61] rfl (by decide +kernel)
set_option maxRecDepth 20000 in
theorem gX4_open_X3_hasVersion : GoodIn wsX4_open (wsV RX4 107 RX3 yX3_hasVersion wsX3_hasVersion) := goodIn_app (goodIn_r _ [7, 8, 9, 10] rfl (by decide +kernel)) ggX4_open_X3_hasVersion
set_option maxRecDepth 20000 in
theorem ggX4_open_X3_become : GoodIn wsX4_open wsX3_become := goodIn_r _ [16, 12, 17, 18, 19, 20, 21, 22, 23, 24, 25, 26, 27, 28, 53, 54, 55, 56, 57, 58, 59, 60, 61] rfl (by decide +kernel)
set_option maxRecDepth 20000 in
theorem gX4_open_X3_become : GoodIn wsX4_open (wsV RX4 75 RX3 yX3_become wsX3_become) := goodIn_app (goodIn_r _ [13, 14, 15, 10] rfl (by decide +kernel)) ggX4_open_X3_become
set_option maxRecDepth 20000 in
theorem ggX4_open_X3_beginVersion : GoodIn wsX4_open wsX3_beginVersion := goodIn_r _ [32, 12, 17, 22, 23, 33, 34, 35, 10, 36, 24, 37, 38, 39, 40, 41, 42, 43, 53, 54, 55, 56, 57, 58, 59, 60, 61] rfl (by decide +kernel)
set_option maxRecDepth 20000 in
theorem gX4_open_X3_beginVersion : GoodIn wsX4_open (wsV RX4 156 RX3 yX3_beginVersion wsX3_beginVersion) := goodIn_app (goodIn_r _ [29, 30, 31, 10] rfl (by decide +kernel)) ggX4_open_X3_beginVersion
theorem dX4_open_0 : decode cX4_open 0 = .ok (.iload_n 1, 1) := by decide +kernel
theorem dX4_open_1 : decode cX4_open 1 = .ok (.iconst (-1), 1) := by decide +kernel
theorem dX4_open_2 : decode cX4_open 2 = .ok (.if_icmp .eq 17, 3) := by decide +kernel
theorem dX4_open_5 : decode cX4_open 5 = .ok (.aload_n 0, 1) := by decide +kernel
theorem dX4_open_6 : decode cX4_open 6 = .ok (.getfield 10, 3) := by decide +kernel
theorem dX4_open_9 : decode cX4_open 9 = .ok (.iload_n 1, 1) := by decide +kernel
theorem dX4_open_10 : decode cX4_open 10 = .ok (.invokevirtual 107, 3) := by decide +kernel
theorem dX4_open_13 : decode cX4_open 13 = .ok (.ifCond .ne 6, 3) := by decide +kernel
theorem dX4_open_16 : decode cX4_open 16 = .ok (.ldc 110, 2) := by decide +kernel
theorem dX4_open_18 : decode cX4_open 18 = .ok (.ireturn, 1) := by decide +kernel
theorem dX4_open_19 : decode cX4_open 19 = .ok (.aload_n 0, 1) := by decide +kernel
theorem dX4_open_20 : decode cX4_open 20 = .ok (.getfield 48, 3) := by decide +kernel
theorem dX4_open_23 : decode cX4_open 23 = .ok (.ifCond .eq 6, 3) := by decide +kernel
theorem dX4_open_26 : decode cX4_open 26 = .ok (.ldc 148, 2) := by decide +kernel
theorem dX4_open_28 : decode cX4_open 28 = .ok (.ireturn, 1) := by decide +kernel
theorem dX4_open_29 : decode cX4_open 29 = .ok (.aload_n 0, 1) := by decide +kernel
theorem dX4_open_30 : decode cX4_open 30 = .ok (.getfield 10, 3) := by decide +kernel
theorem dX4_open_33 : decode cX4_open 33 = .ok (.getfield 82, 3) := by decide +kernel
theorem dX4_open_36 : decode cX4_open 36 = .ok (.bipush 24, 2) := by decide +kernel
theorem dX4_open_38 : decode cX4_open 38 = .ok (.if_icmp .lt 6, 3) := by decide +kernel
theorem dX4_open_41 : decode cX4_open 41 = .ok (.ldc 64, 2) := by decide +kernel
theorem dX4_open_43 : decode cX4_open 43 = .ok (.ireturn, 1) := by decide +kernel
theorem dX4_open_44 : decode cX4_open 44 = .ok (.aload_n 0, 1) := by decide +kernel
theorem dX4_open_45 : decode cX4_open 45 = .ok (.getfield 16, 3) := by decide +kernel
theorem dX4_open_48 : decode cX4_open 48 = .ok (.aload_n 0, 1) := by decide +kernel
theorem dX4_open_49 : decode cX4_open 49 = .ok (.getfield 10, 3) := by decide +kernel
theorem dX4_open_52 : decode cX4_open 52 = .ok (.invokevirtual 75, 3) := by decide +kernel
theorem dX4_open_55 : decode cX4_open 55 = .ok (.aload_n 0, 1) := by decide +kernel
theorem dX4_open_56 : decode cX4_open 56 = .ok (.getfield 10, 3) := by decide +kernel
theorem dX4_open_59 : decode cX4_open 59 = .ok (.iload_n 1, 1) := by decide +kernel
theorem dX4_open_60 : decode cX4_open 60 = .ok (.iconst 0, 1) := by decide +kernel
theorem dX4_open_61 : decode cX4_open 61 = .ok (.iconst 0, 1) := by decide +kernel
theorem dX4_open_62 : decode cX4_open 62 = .ok (.invokevirtual 156, 3) := by decide +kernel
theorem dX4_open_65 : decode cX4_open 65 = .ok (.aload_n 0, 1) := by decide +kernel
theorem dX4_open_66 : decode cX4_open 66 = .ok (.iconst 1, 1) := by decide +kernel
theorem dX4_open_67 : decode cX4_open 67 = .ok (.putfield 48, 3) := by decide +kernel
theorem dX4_open_70 : decode cX4_open 70 = .ok (.aload_n 0, 1) := by decide +kernel
theorem dX4_open_71 : decode cX4_open 71 = .ok (.getfield 10, 3) := by decide +kernel
theorem dX4_open_74 : decode cX4_open 74 = .ok (.getfield 82, 3) := by decide +kernel
theorem dX4_open_77 : decode cX4_open 77 = .ok (.ireturn, 1) := by decide +kernel
set_option maxRecDepth 20000 in
theorem ggX4_include_X3_hasVersion : GoodIn wsX4_include wsX3_hasVersion := goodIn_r _ [9, 10, 67, 68, 69, 70, 71, 72, 73, 74, 75] rfl (by decide +kernel)
set_option maxRecDepth 20000 in
theorem gX4_include_X3_hasVersion : GoodIn wsX4_include (wsV RX4 107 RX3 yX3_hasVersion wsX3_hasVersion) := goodIn_app (goodIn_r _ [5, 6, 7, 8] rfl (by decide +kernel)) ggX4_include_X3_hasVersion
set_option maxRecDepth 20000 in
theorem ggX4_include_X4_openChanges : GoodIn wsX4_include wsX4_openChanges := goodIn_r _ [15, 1, 16, 17, 18, 8, 19, 20, 58, 59, 60, 61, 62, 63, 64, 65, 66, 67, 68, 69, 70, 71, 72, 73, 74, 75] rfl (by decide +kernel)
set_option maxRecDepth 20000 in
theorem gX4_include_X4_openChanges : GoodIn wsX4_include (wsV RX4 160 RX4 yX4_openChanges wsX4_openChanges) := goodIn_app (goodIn_r _ [11, 12, 13, 14] rfl (by decide +kernel)) ggX4_include_X4_openChanges
set_option maxRecDepth 20000 in
theorem ggX4_include_X3_holds : GoodIn wsX4_include wsX3_holds := goodIn_r _ [23, 24, 25, 8, 26] rfl (by decide +kernel)
set_option maxRecDepth 20000 in
theorem gX4_include_X3_holds : GoodIn wsX4_include (va_wsS RX4 163 yX3_holds wsX3_holds) := goodIn_app (goodIn_r _ [21, 22, 8] rfl (by decide +kernel)) ggX4_include_X3_holds
set_option maxRecDepth 20000 in
theorem ggX4_include_X3_includeInNext : GoodIn wsX4_include wsX3_includeInNext := goodIn_r _ [30, 10, 31, 32, 24, 25, 8, 26, 33, 34, 35, 36, 37, 20, 38, 17, 18, 19, 67, 68, 69, 70, 71, 72, 73, 74, 75] rfl (by decide +kernel)
set_option maxRecDepth 20000 in
theorem gX4_include_X3_includeInNext : GoodIn wsX4_include (wsV RX4 167 RX3 yX3_includeInNext wsX3_includeInNext) := goodIn_app (goodIn_r _ [27, 28, 29, 8] rfl (by decide +kernel)) ggX4_include_X3_includeInNext
set_option maxRecDepth 20000 in
theorem ggX4_include_X4_openLines : GoodIn wsX4_include wsX4_openLines := goodIn_r _ [42, 1, 11, 12, 13, 14, 15, 16, 17, 18, 8, 19, 20, 43, 44, 45, 46, 47, 48, 49, 50, 51, 52, 53, 54, 55, 56, 57, 58, 59, 60, 61, 62, 63, 64, 65, 66, 67, 68, 69, 70, 71, 72, 73, 74, 75] rfl (by decide +kernel)
set_option maxRecDepth 20000 in
theorem gX4_include_X4_openLines : GoodIn wsX4_include (wsV RX4 92 RX4 yX4_openLines wsX4_openLines) := goodIn_app (goodIn_r _ [39, 40, 41, 14] rfl (by decide +kernel)) ggX4_include_X4_openLines
theorem dX4_include_0 : decode cX4_include 0 = .ok (.aload_n 0, 1) := by decide +kernel
theorem dX4_include_1 : decode cX4_include 1 = .ok (.getfield 10, 3) := by decide +kernel
theorem dX4_include_4 : decode cX4_include 4 = .ok (.iload_n 1, 1) := by decide +kernel
theorem dX4_include_5 : decode cX4_include 5 = .ok (.invokevirtual 107, 3) := by decide +kernel
theorem dX4_include_8 : decode cX4_include 8 = .ok (.ifCond .ne 6, 3) := by decide +kernel
theorem dX4_include_11 : decode cX4_include 11 = .ok (.ldc 110, 2) := by decide +kernel
theorem dX4_include_13 : decode cX4_include 13 = .ok (.ireturn, 1) := by decide +kernel
theorem dX4_include_14 : decode cX4_include 14 = .ok (.aload_n 0, 1) := by decide +kernel
theorem dX4_include_15 : decode cX4_include 15 = .ok (.getfield 48, 3) := by decide +kernel
theorem dX4_include_18 : decode cX4_include 18 = .ok (.ifCond .eq 14, 3) := by decide +kernel
theorem dX4_include_21 : decode cX4_include 21 = .ok (.aload_n 0, 1) := by decide +kernel
theorem dX4_include_22 : decode cX4_include 22 = .ok (.invokevirtual 160, 3) := by decide +kernel
theorem dX4_include_25 : decode cX4_include 25 = .ok (.iload_n 1, 1) := by decide +kernel
theorem dX4_include_26 : decode cX4_include 26 = .ok (.invokestatic 163, 3) := by decide +kernel
theorem dX4_include_29 : decode cX4_include 29 = .ok (.ifCond .eq 6, 3) := by decide +kernel
theorem dX4_include_32 : decode cX4_include 32 = .ok (.ldc 148, 2) := by decide +kernel
theorem dX4_include_34 : decode cX4_include 34 = .ok (.ireturn, 1) := by decide +kernel
theorem dX4_include_35 : decode cX4_include 35 = .ok (.aload_n 0, 1) := by decide +kernel
theorem dX4_include_36 : decode cX4_include 36 = .ok (.getfield 10, 3) := by decide +kernel
theorem dX4_include_39 : decode cX4_include 39 = .ok (.iload_n 1, 1) := by decide +kernel
theorem dX4_include_40 : decode cX4_include 40 = .ok (.invokevirtual 167, 3) := by decide +kernel
theorem dX4_include_43 : decode cX4_include 43 = .ok (.aload_n 0, 1) := by decide +kernel
theorem dX4_include_44 : decode cX4_include 44 = .ok (.invokevirtual 92, 3) := by decide +kernel
theorem dX4_include_47 : decode cX4_include 47 = .ok (.ireturn, 1) := by decide +kernel
set_option maxRecDepth 20000 in
theorem ggX4_exclude_X3_hasVersion : GoodIn wsX4_exclude wsX3_hasVersion := goodIn_r _ [9, 10, 67, 68, 69, 70, 71, 72, 73, 74, 75] rfl (by decide +kernel)
set_option maxRecDepth 20000 in
theorem gX4_exclude_X3_hasVersion : GoodIn wsX4_exclude (wsV RX4 107 RX3 yX3_hasVersion wsX3_hasVersion) := goodIn_app (goodIn_r _ [5, 6, 7, 8] rfl (by decide +kernel)) ggX4_exclude_X3_hasVersion
set_option maxRecDepth 20000 in
theorem ggX4_exclude_X4_openChanges : GoodIn wsX4_exclude wsX4_openChanges := goodIn_r _ [15, 1, 16, 17, 18, 8, 19, 20, 58, 59, 60, 61, 62, 63, 64, 65, 66, 67, 68, 69, 70, 71, 72, 73, 74, 75] rfl (by decide +kernel)
set_option maxRecDepth 20000 in
theorem gX4_exclude_X4_openChanges : GoodIn wsX4_exclude (wsV RX4 160 RX4 yX4_openChanges wsX4_openChanges) := goodIn_app (goodIn_r _ [11, 12, 13, 14] rfl (by decide +kernel)) ggX4_exclude_X4_openChanges
set_option maxRecDepth 20000 in
theorem ggX4_exclude_X3_holds : GoodIn wsX4_exclude wsX3_holds := goodIn_r _ [23, 24, 25, 8, 26] rfl (by decide +kernel)
set_option maxRecDepth 20000 in
theorem gX4_exclude_X3_holds : GoodIn wsX4_exclude (va_wsS RX4 163 yX3_holds wsX3_holds) := goodIn_app (goodIn_r _ [21, 22, 8] rfl (by decide +kernel)) ggX4_exclude_X3_holds
set_option maxRecDepth 20000 in
theorem ggX4_exclude_X3_excludeFromNext : GoodIn wsX4_exclude wsX3_excludeFromNext := goodIn_r _ [30, 10, 31, 32, 24, 25, 8, 26, 33, 34, 35, 36, 37, 20, 38, 17, 18, 19, 67, 68, 69, 70, 71, 72, 73, 74, 75] rfl (by decide +kernel)
set_option maxRecDepth 20000 in
theorem gX4_exclude_X3_excludeFromNext : GoodIn wsX4_exclude (wsV RX4 171 RX3 yX3_excludeFromNext wsX3_excludeFromNext) := goodIn_app (goodIn_r _ [27, 28, 29, 8] rfl (by decide +kernel)) ggX4_exclude_X3_excludeFromNext
set_option maxRecDepth 20000 in
theorem ggX4_exclude_X4_openLines : GoodIn wsX4_exclude wsX4_openLines := goodIn_r _ [42, 1, 11, 12, 13, 14, 15, 16, 17, 18, 8, 19, 20, 43, 44, 45, 46, 47, 48, 49, 50, 51, 52, 53, 54, 55, 56, 57, 58, 59, 60, 61, 62, 63, 64, 65, 66, 67, 68, 69, 70, 71, 72, 73, 74, 75] rfl (by decide +kernel)
set_option maxRecDepth 20000 in
theorem gX4_exclude_X4_openLines : GoodIn wsX4_exclude (wsV RX4 92 RX4 yX4_openLines wsX4_openLines) := goodIn_app (goodIn_r _ [39, 40, 41, 14] rfl (by decide +kernel)) ggX4_exclude_X4_openLines
theorem dX4_exclude_0 : decode cX4_exclude 0 = .ok (.aload_n 0, 1) := by decide +kernel
theorem dX4_exclude_1 : decode cX4_exclude 1 = .ok (.getfield 10, 3) := by decide +kernel
theorem dX4_exclude_4 : decode cX4_exclude 4 = .ok (.iload_n 1, 1) := by decide +kernel
theorem dX4_exclude_5 : decode cX4_exclude 5 = .ok (.invokevirtual 107, 3) := by decide +kernel
theorem dX4_exclude_8 : decode cX4_exclude 8 = .ok (.ifCond .ne 6, 3) := by decide +kernel
theorem dX4_exclude_11 : decode cX4_exclude 11 = .ok (.ldc 110, 2) := by decide +kernel
theorem dX4_exclude_13 : decode cX4_exclude 13 = .ok (.ireturn, 1) := by decide +kernel
theorem dX4_exclude_14 : decode cX4_exclude 14 = .ok (.aload_n 0, 1) := by decide +kernel
theorem dX4_exclude_15 : decode cX4_exclude 15 = .ok (.getfield 48, 3) := by decide +kernel
theorem dX4_exclude_18 : decode cX4_exclude 18 = .ok (.ifCond .eq 14, 3) := by decide +kernel
theorem dX4_exclude_21 : decode cX4_exclude 21 = .ok (.aload_n 0, 1) := by decide +kernel
theorem dX4_exclude_22 : decode cX4_exclude 22 = .ok (.invokevirtual 160, 3) := by decide +kernel
theorem dX4_exclude_25 : decode cX4_exclude 25 = .ok (.iload_n 1, 1) := by decide +kernel
theorem dX4_exclude_26 : decode cX4_exclude 26 = .ok (.invokestatic 163, 3) := by decide +kernel
theorem dX4_exclude_29 : decode cX4_exclude 29 = .ok (.ifCond .ne 6, 3) := by decide +kernel
theorem dX4_exclude_32 : decode cX4_exclude 32 = .ok (.ldc 148, 2) := by decide +kernel
theorem dX4_exclude_34 : decode cX4_exclude 34 = .ok (.ireturn, 1) := by decide +kernel
theorem dX4_exclude_35 : decode cX4_exclude 35 = .ok (.aload_n 0, 1) := by decide +kernel
theorem dX4_exclude_36 : decode cX4_exclude 36 = .ok (.getfield 10, 3) := by decide +kernel
theorem dX4_exclude_39 : decode cX4_exclude 39 = .ok (.iload_n 1, 1) := by decide +kernel
theorem dX4_exclude_40 : decode cX4_exclude 40 = .ok (.invokevirtual 171, 3) := by decide +kernel
theorem dX4_exclude_43 : decode cX4_exclude 43 = .ok (.aload_n 0, 1) := by decide +kernel
theorem dX4_exclude_44 : decode cX4_exclude 44 = .ok (.invokevirtual 92, 3) := by decide +kernel
theorem dX4_exclude_47 : decode cX4_exclude 47 = .ok (.ireturn, 1) := by decide +kernel
set_option maxRecDepth 20000 in
theorem ggX4_put_X4_isSign : GoodIn wsX4_put wsX4_isSign := goodIn_r _ [9] rfl (by decide +kernel)
set_option maxRecDepth 20000 in
theorem gX4_put_X4_isSign : GoodIn wsX4_put (va_wsS RX4 174 yX4_isSign wsX4_isSign) := goodIn_app (goodIn_r _ [6, 7, 8] rfl (by decide +kernel)) ggX4_put_X4_isSign
set_option maxRecDepth 20000 in
theorem ggX4_put_X4_openLines : GoodIn wsX4_put wsX4_openLines := goodIn_r _ [13, 4, 14, 15, 16, 8, 17, 18, 19, 20, 21, 22, 23, 24, 25, 26, 27, 28, 29, 30, 31, 32, 33, 34, 35, 36, 37, 38, 62, 63, 64, 65, 66, 67, 68, 69, 70, 71, 72, 73, 74, 75, 76, 77, 78, 79] rfl (by decide +kernel)
set_option maxRecDepth 20000 in
theorem gX4_put_X4_openLines : GoodIn wsX4_put (wsV RX4 92 RX4 yX4_openLines wsX4_openLines) := goodIn_app (goodIn_r _ [10, 11, 12, 8] rfl (by decide +kernel)) ggX4_put_X4_openLines
set_option maxRecDepth 20000 in
theorem ggX4_put_X3_putByNext : GoodIn wsX4_put wsX3_putByNext := goodIn_r _ [42, 43, 44, 19, 20, 21, 22, 23, 45, 46, 47, 48, 32, 33, 34, 35, 36, 37, 38, 49, 50, 51, 52, 53, 54, 55, 56, 57, 58, 59, 60, 61, 71, 72, 73, 74, 75, 76, 77, 78, 79] rfl (by decide +kernel)
set_option maxRecDepth 20000 in
theorem gX4_put_X3_putByNext : GoodIn wsX4_put (wsV RX4 177 RX3 yX3_putByNext wsX3_putByNext) := goodIn_app (goodIn_r _ [39, 40, 41, 21] rfl (by decide +kernel)) ggX4_put_X3_putByNext
theorem dX4_put_0 : decode cX4_put 0 = .ok (.iload_n 1, 1) := by decide +kernel
theorem dX4_put_1 : decode cX4_put 1 = .ok (.ifCond .lt 10, 3) := by decide +kernel
theorem dX4_put_4 : decode cX4_put 4 = .ok (.iload_n 2, 1) := by decide +kernel
theorem dX4_put_5 : decode cX4_put 5 = .ok (.invokestatic 174, 3) := by decide +kernel
theorem dX4_put_8 : decode cX4_put 8 = .ok (.ifCond .ne 6, 3) := by decide +kernel
theorem dX4_put_11 : decode cX4_put 11 = .ok (.ldc 56, 2) := by decide +kernel
theorem dX4_put_13 : decode cX4_put 13 = .ok (.ireturn, 1) := by decide +kernel
theorem dX4_put_14 : decode cX4_put 14 = .ok (.aload_n 0, 1) := by decide +kernel
theorem dX4_put_15 : decode cX4_put 15 = .ok (.getfield 48, 3) := by decide +kernel
theorem dX4_put_18 : decode cX4_put 18 = .ok (.ifCond .eq 11, 3) := by decide +kernel
theorem dX4_put_21 : decode cX4_put 21 = .ok (.iload_n 1, 1) := by decide +kernel
theorem dX4_put_22 : decode cX4_put 22 = .ok (.aload_n 0, 1) := by decide +kernel
theorem dX4_put_23 : decode cX4_put 23 = .ok (.invokevirtual 92, 3) := by decide +kernel
theorem dX4_put_26 : decode cX4_put 26 = .ok (.if_icmp .le 6, 3) := by decide +kernel
theorem dX4_put_29 : decode cX4_put 29 = .ok (.ldc 148, 2) := by decide +kernel
theorem dX4_put_31 : decode cX4_put 31 = .ok (.ireturn, 1) := by decide +kernel
theorem dX4_put_32 : decode cX4_put 32 = .ok (.aload_n 0, 1) := by decide +kernel
theorem dX4_put_33 : decode cX4_put 33 = .ok (.getfield 10, 3) := by decide +kernel
theorem dX4_put_36 : decode cX4_put 36 = .ok (.getfield 85, 3) := by decide +kernel
theorem dX4_put_39 : decode cX4_put 39 = .ok (.bipush 120, 2) := by decide +kernel
theorem dX4_put_41 : decode cX4_put 41 = .ok (.if_icmp .lt 6, 3) := by decide +kernel
theorem dX4_put_44 : decode cX4_put 44 = .ok (.ldc 64, 2) := by decide +kernel
theorem dX4_put_46 : decode cX4_put 46 = .ok (.ireturn, 1) := by decide +kernel
theorem dX4_put_47 : decode cX4_put 47 = .ok (.aload_n 0, 1) := by decide +kernel
theorem dX4_put_48 : decode cX4_put 48 = .ok (.getfield 10, 3) := by decide +kernel
theorem dX4_put_51 : decode cX4_put 51 = .ok (.iload_n 1, 1) := by decide +kernel
theorem dX4_put_52 : decode cX4_put 52 = .ok (.iload_n 2, 1) := by decide +kernel
theorem dX4_put_53 : decode cX4_put 53 = .ok (.invokevirtual 177, 3) := by decide +kernel
theorem dX4_put_56 : decode cX4_put 56 = .ok (.ireturn, 1) := by decide +kernel
set_option maxRecDepth 20000 in
theorem ggX4_take_X4_openLines : GoodIn wsX4_take wsX4_openLines := goodIn_r _ [9, 4, 10, 11, 12, 8, 13, 14, 15, 16, 17, 18, 19, 20, 21, 22, 23, 24, 25, 26, 27, 28, 29, 30, 31, 32, 33, 34, 65, 66, 67, 68, 69, 70, 71, 72, 73, 74, 75, 76, 77, 78, 79, 80, 81, 82] rfl (by decide +kernel)
set_option maxRecDepth 20000 in
theorem gX4_take_X4_openLines : GoodIn wsX4_take (wsV RX4 92 RX4 yX4_openLines wsX4_openLines) := goodIn_app (goodIn_r _ [5, 6, 7, 8] rfl (by decide +kernel)) ggX4_take_X4_openLines
set_option maxRecDepth 20000 in
theorem ggX4_take_X3_takeByNext : GoodIn wsX4_take wsX3_takeByNext := goodIn_r _ [38, 39, 40, 33, 34, 41, 15, 16, 17, 18, 19, 42, 43, 44, 45, 28, 29, 30, 31, 32, 46, 47, 48, 49, 50, 51, 52, 53, 54, 55, 56, 57, 58, 59, 60, 61, 62, 63, 64, 74, 75, 76, 77, 78, 79, 80, 81, 82] rfl (by decide +kernel)
set_option maxRecDepth 20000 in
theorem gX4_take_X3_takeByNext : GoodIn wsX4_take (wsV RX4 180 RX3 yX3_takeByNext wsX3_takeByNext) := goodIn_app (goodIn_r _ [35, 36, 37, 17] rfl (by decide +kernel)) ggX4_take_X3_takeByNext
theorem dX4_take_0 : decode cX4_take 0 = .ok (.iload_n 1, 1) := by decide +kernel
theorem dX4_take_1 : decode cX4_take 1 = .ok (.ifCond .ge 6, 3) := by decide +kernel
theorem dX4_take_4 : decode cX4_take 4 = .ok (.ldc 56, 2) := by decide +kernel
theorem dX4_take_6 : decode cX4_take 6 = .ok (.ireturn, 1) := by decide +kernel
theorem dX4_take_7 : decode cX4_take 7 = .ok (.aload_n 0, 1) := by decide +kernel
theorem dX4_take_8 : decode cX4_take 8 = .ok (.getfield 48, 3) := by decide +kernel
theorem dX4_take_11 : decode cX4_take 11 = .ok (.ifCond .eq 11, 3) := by decide +kernel
theorem dX4_take_14 : decode cX4_take 14 = .ok (.iload_n 1, 1) := by decide +kernel
theorem dX4_take_15 : decode cX4_take 15 = .ok (.aload_n 0, 1) := by decide +kernel
theorem dX4_take_16 : decode cX4_take 16 = .ok (.invokevirtual 92, 3) := by decide +kernel
theorem dX4_take_19 : decode cX4_take 19 = .ok (.if_icmp .lt 6, 3) := by decide +kernel
theorem dX4_take_22 : decode cX4_take 22 = .ok (.ldc 148, 2) := by decide +kernel
theorem dX4_take_24 : decode cX4_take 24 = .ok (.ireturn, 1) := by decide +kernel
theorem dX4_take_25 : decode cX4_take 25 = .ok (.aload_n 0, 1) := by decide +kernel
theorem dX4_take_26 : decode cX4_take 26 = .ok (.getfield 10, 3) := by decide +kernel
theorem dX4_take_29 : decode cX4_take 29 = .ok (.iload_n 1, 1) := by decide +kernel
theorem dX4_take_30 : decode cX4_take 30 = .ok (.invokevirtual 180, 3) := by decide +kernel
theorem dX4_take_33 : decode cX4_take 33 = .ok (.ireturn, 1) := by decide +kernel
set_option maxRecDepth 20000 in
theorem ggX4_close_X3_finishVersion : GoodIn wsX4_close wsX3_finishVersion := goodIn_r _ [8, 9, 19, 20, 21, 22, 23, 24, 25, 26, 27] rfl (by decide +kernel)
set_option maxRecDepth 20000 in
theorem gX4_close_X3_finishVersion : GoodIn wsX4_close (wsV RX4 183 RX3 yX3_finishVersion wsX3_finishVersion) := goodIn_app (goodIn_r _ [4, 5, 6, 7] rfl (by decide +kernel)) ggX4_close_X3_finishVersion
theorem dX4_close_0 : decode cX4_close 0 = .ok (.aload_n 0, 1) := by decide +kernel
theorem dX4_close_1 : decode cX4_close 1 = .ok (.getfield 48, 3) := by decide +kernel
theorem dX4_close_4 : decode cX4_close 4 = .ok (.ifCond .ne 6, 3) := by decide +kernel
theorem dX4_close_7 : decode cX4_close 7 = .ok (.ldc 148, 2) := by decide +kernel
theorem dX4_close_9 : decode cX4_close 9 = .ok (.ireturn, 1) := by decide +kernel
theorem dX4_close_10 : decode cX4_close 10 = .ok (.aload_n 0, 1) := by decide +kernel
theorem dX4_close_11 : decode cX4_close 11 = .ok (.getfield 10, 3) := by decide +kernel
theorem dX4_close_14 : decode cX4_close 14 = .ok (.invokevirtual 183, 3) := by decide +kernel
theorem dX4_close_17 : decode cX4_close 17 = .ok (.aload_n 0, 1) := by decide +kernel
theorem dX4_close_18 : decode cX4_close 18 = .ok (.iconst 0, 1) := by decide +kernel
theorem dX4_close_19 : decode cX4_close 19 = .ok (.putfield 48, 3) := by decide +kernel
theorem dX4_close_22 : decode cX4_close 22 = .ok (.aload_n 0, 1) := by decide +kernel
theorem dX4_close_23 : decode cX4_close 23 = .ok (.getfield 10, 3) := by decide +kernel
theorem dX4_close_26 : decode cX4_close 26 = .ok (.getfield 82, 3) := by decide +kernel
theorem dX4_close_29 : decode cX4_close 29 = .ok (.iconst 1, 1) := by decide +kernel
theorem dX4_close_30 : decode cX4_close 30 = .ok (.isub, 1) := by decide +kernel
theorem dX4_close_31 : decode cX4_close 31 = .ok (.ireturn, 1) := by decide +kernel
set_option maxRecDepth 20000 in
theorem ggX4_leave_X4_openLines : GoodIn wsX4_leave wsX4_openLines := goodIn_r _ [9, 3, 10, 11, 12, 8, 13, 14, 15, 16, 17, 18, 19, 20, 21, 22, 23, 24, 25, 26, 27, 28, 29, 30, 31, 32, 33, 34, 48, 49, 50, 51, 52, 53, 54, 55, 56, 57, 58, 59, 60, 61, 62, 63, 64, 65] rfl (by decide +kernel)
set_option maxRecDepth 20000 in
theorem gX4_leave_X4_openLines : GoodIn wsX4_leave (wsV RX4 92 RX4 yX4_openLines wsX4_openLines) := goodIn_app (goodIn_r _ [5, 6, 7, 8] rfl (by decide +kernel)) ggX4_leave_X4_openLines
set_option maxRecDepth 20000 in
theorem ggX4_leave_X3_become : GoodIn wsX4_leave wsX3_become := goodIn_r _ [38, 39, 40, 41, 42, 43, 44, 45, 46, 19, 28, 47, 33, 34, 57, 58, 59, 60, 61, 62, 63, 64, 65] rfl (by decide +kernel)
set_option maxRecDepth 20000 in
theorem gX4_leave_X3_become : GoodIn wsX4_leave (wsV RX4 75 RX3 yX3_become wsX3_become) := goodIn_app (goodIn_r _ [35, 36, 37, 17] rfl (by decide +kernel)) ggX4_leave_X3_become
theorem dX4_leave_0 : decode cX4_leave 0 = .ok (.aload_n 0, 1) := by decide +kernel
theorem dX4_leave_1 : decode cX4_leave 1 = .ok (.getfield 48, 3) := by decide +kernel
theorem dX4_leave_4 : decode cX4_leave 4 = .ok (.ifCond .ne 6, 3) := by decide +kernel
theorem dX4_leave_7 : decode cX4_leave 7 = .ok (.ldc 148, 2) := by decide +kernel
theorem dX4_leave_9 : decode cX4_leave 9 = .ok (.ireturn, 1) := by decide +kernel
theorem dX4_leave_10 : decode cX4_leave 10 = .ok (.aload_n 0, 1) := by decide +kernel
theorem dX4_leave_11 : decode cX4_leave 11 = .ok (.invokevirtual 92, 3) := by decide +kernel
theorem dX4_leave_14 : decode cX4_leave 14 = .ok (.istore_n 1, 1) := by decide +kernel
theorem dX4_leave_15 : decode cX4_leave 15 = .ok (.aload_n 0, 1) := by decide +kernel
theorem dX4_leave_16 : decode cX4_leave 16 = .ok (.getfield 10, 3) := by decide +kernel
theorem dX4_leave_19 : decode cX4_leave 19 = .ok (.aload_n 0, 1) := by decide +kernel
theorem dX4_leave_20 : decode cX4_leave 20 = .ok (.getfield 16, 3) := by decide +kernel
theorem dX4_leave_23 : decode cX4_leave 23 = .ok (.invokevirtual 75, 3) := by decide +kernel
theorem dX4_leave_26 : decode cX4_leave 26 = .ok (.aload_n 0, 1) := by decide +kernel
theorem dX4_leave_27 : decode cX4_leave 27 = .ok (.iconst 0, 1) := by decide +kernel
theorem dX4_leave_28 : decode cX4_leave 28 = .ok (.putfield 48, 3) := by decide +kernel
theorem dX4_leave_31 : decode cX4_leave 31 = .ok (.iload_n 1, 1) := by decide +kernel
theorem dX4_leave_32 : decode cX4_leave 32 = .ok (.ireturn, 1) := by decide +kernel
set_option maxRecDepth 20000 in
theorem ggX4_drift_X0_start : GoodIn wsX4_drift wsX0_start := goodIn_r _ [11, 12, 128] rfl (by decide +kernel)
set_option maxRecDepth 20000 in
theorem gX4_drift_X0_start : GoodIn wsX4_drift (wsV RX4 187 RX0 yX0_start wsX0_start) := goodIn_app (goodIn_r _ [7, 8, 9, 10] rfl (by decide +kernel)) ggX4_drift_X0_start
set_option maxRecDepth 20000 in
theorem ggX4_drift_X4_driftOneVersion : GoodIn wsX4_drift wsX4_driftOneVersion := goodIn_r _ [17, 4, 6, 18, 19, 20, 10, 21, 12, 22, 23, 24, 25, 26, 27, 28, 29, 30, 31, 32, 33, 34, 35, 36, 37, 38, 39, 40, 41, 42, 43, 44, 45, 46, 47, 16, 48, 49, 50, 51, 52, 53, 54, 55, 56, 57, 58, 59, 60, 61, 62, 63, 64, 65, 66, 67, 68, 69, 70, 71, 72, 73, 74, 75, 76, 77, 78, 79, 80, 81, 82, 83, 84, 85, 86, 87, 88, 89, 90, 91, 92, 93, 94, 95, 96, 97, 98, 99, 100, 101, 102, 103, 104, 105, 106, 107, 108, 109, 110, 111, 112, 113, 114, 115, 116, 117, 118, 119, 120, 121, 122, 123, 124, 125, 126, 127, 128] rfl (by decide +kernel)
set_option maxRecDepth 20000 in
theorem gX4_drift_X4_driftOneVersion : GoodIn wsX4_drift (wsV RX4 190 RX4 yX4_driftOneVersion wsX4_driftOneVersion) := goodIn_app (goodIn_r _ [13, 14, 15, 16] rfl (by decide +kernel)) ggX4_drift_X4_driftOneVersion
theorem dX4_drift_0 : decode cX4_drift 0 = .ok (.iload_n 1, 1) := by decide +kernel
theorem dX4_drift_1 : decode cX4_drift 1 = .ok (.iconst 1, 1) := by decide +kernel
theorem dX4_drift_2 : decode cX4_drift 2 = .ok (.if_icmp .lt 20, 3) := by decide +kernel
theorem dX4_drift_5 : decode cX4_drift 5 = .ok (.iload_n 1, 1) := by decide +kernel
theorem dX4_drift_6 : decode cX4_drift 6 = .ok (.bipush 24, 2) := by decide +kernel
theorem dX4_drift_8 : decode cX4_drift 8 = .ok (.if_icmp .gt 14, 3) := by decide +kernel
theorem dX4_drift_11 : decode cX4_drift 11 = .ok (.iload_n 2, 1) := by decide +kernel
theorem dX4_drift_12 : decode cX4_drift 12 = .ok (.iconst 1, 1) := by decide +kernel
theorem dX4_drift_13 : decode cX4_drift 13 = .ok (.if_icmp .lt 9, 3) := by decide +kernel
theorem dX4_drift_16 : decode cX4_drift 16 = .ok (.iload_n 2, 1) := by decide +kernel
theorem dX4_drift_17 : decode cX4_drift 17 = .ok (.ldc 186, 2) := by decide +kernel
theorem dX4_drift_19 : decode cX4_drift 19 = .ok (.if_icmp .le 6, 3) := by decide +kernel
theorem dX4_drift_22 : decode cX4_drift 22 = .ok (.ldc 56, 2) := by decide +kernel
theorem dX4_drift_24 : decode cX4_drift 24 = .ok (.ireturn, 1) := by decide +kernel
theorem dX4_drift_25 : decode cX4_drift 25 = .ok (.aload_n 0, 1) := by decide +kernel
theorem dX4_drift_26 : decode cX4_drift 26 = .ok (.getfield 48, 3) := by decide +kernel
theorem dX4_drift_29 : decode cX4_drift 29 = .ok (.ifCond .ne 13, 3) := by decide +kernel
theorem dX4_drift_32 : decode cX4_drift 32 = .ok (.aload_n 0, 1) := by decide +kernel
theorem dX4_drift_33 : decode cX4_drift 33 = .ok (.getfield 10, 3) := by decide +kernel
theorem dX4_drift_36 : decode cX4_drift 36 = .ok (.getfield 82, 3) := by decide +kernel
theorem dX4_drift_39 : decode cX4_drift 39 = .ok (.ifCond .ne 6, 3) := by decide +kernel
theorem dX4_drift_42 : decode cX4_drift 42 = .ok (.ldc 148, 2) := by decide +kernel
theorem dX4_drift_44 : decode cX4_drift 44 = .ok (.ireturn, 1) := by decide +kernel
theorem dX4_drift_45 : decode cX4_drift 45 = .ok (.aload_n 0, 1) := by decide +kernel
theorem dX4_drift_46 : decode cX4_drift 46 = .ok (.getfield 44, 3) := by decide +kernel
theorem dX4_drift_49 : decode cX4_drift 49 = .ok (.iload_n 2, 1) := by decide +kernel
theorem dX4_drift_50 : decode cX4_drift 50 = .ok (.invokevirtual 187, 3) := by decide +kernel
theorem dX4_drift_53 : decode cX4_drift 53 = .ok (.iconst 1, 1) := by decide +kernel
theorem dX4_drift_54 : decode cX4_drift 54 = .ok (.istore_n 3, 1) := by decide +kernel
theorem dX4_drift_55 : decode cX4_drift 55 = .ok (.iconst 0, 1) := by decide +kernel
theorem dX4_drift_56 : decode cX4_drift 56 = .ok (.istore 4, 2) := by decide +kernel
theorem dX4_drift_58 : decode cX4_drift 58 = .ok (.iload 4, 2) := by decide +kernel
theorem dX4_drift_60 : decode cX4_drift 60 = .ok (.iload_n 1, 1) := by decide +kernel
theorem dX4_drift_61 : decode cX4_drift 61 = .ok (.if_icmp .ge 18, 3) := by decide +kernel
theorem dX4_drift_64 : decode cX4_drift 64 = .ok (.iload_n 3, 1) := by decide +kernel
theorem dX4_drift_65 : decode cX4_drift 65 = .ok (.ifCond .eq 14, 3) := by decide +kernel
theorem dX4_drift_68 : decode cX4_drift 68 = .ok (.aload_n 0, 1) := by decide +kernel
theorem dX4_drift_69 : decode cX4_drift 69 = .ok (.invokevirtual 190, 3) := by decide +kernel
theorem dX4_drift_72 : decode cX4_drift 72 = .ok (.istore_n 3, 1) := by decide +kernel
theorem dX4_drift_73 : decode cX4_drift 73 = .ok (.iinc 4 1, 3) := by decide +kernel
theorem dX4_drift_76 : decode cX4_drift 76 = .ok (.goto (-18), 3) := by decide +kernel
theorem dX4_drift_79 : decode cX4_drift 79 = .ok (.aload_n 0, 1) := by decide +kernel
theorem dX4_drift_80 : decode cX4_drift 80 = .ok (.getfield 10, 3) := by decide +kernel
theorem dX4_drift_83 : decode cX4_drift 83 = .ok (.getfield 82, 3) := by decide +kernel
theorem dX4_drift_86 : decode cX4_drift 86 = .ok (.ireturn, 1) := by decide +kernel
set_option maxRecDepth 20000 in
theorem ggX4_share_X3_hasVersion : GoodIn wsX4_share wsX3_hasVersion := goodIn_r _ [7, 8, 29, 30, 31, 32, 33, 34, 35, 36, 37] rfl (by decide +kernel)
set_option maxRecDepth 20000 in
theorem gX4_share_X3_hasVersion : GoodIn wsX4_share (wsV RX4 107 RX3 yX3_hasVersion wsX3_hasVersion) := goodIn_app (goodIn_r _ [3, 4, 5, 6] rfl (by decide +kernel)) ggX4_share_X3_hasVersion
set_option maxRecDepth 20000 in
theorem ggX4_share_X3_countShare : GoodIn wsX4_share wsX3_countShare := goodIn_r _ [12, 13, 14, 15, 16, 17, 6, 18, 19, 29, 30, 31, 32, 33, 34, 35, 36, 37] rfl (by decide +kernel)
set_option maxRecDepth 20000 in
theorem gX4_share_X3_countShare : GoodIn wsX4_share (wsV RX4 194 RX3 yX3_countShare wsX3_countShare) := goodIn_app (goodIn_r _ [9, 10, 11, 6] rfl (by decide +kernel)) ggX4_share_X3_countShare
theorem dX4_share_0 : decode cX4_share 0 = .ok (.aload_n 0, 1) := by decide +kernel
theorem dX4_share_1 : decode cX4_share 1 = .ok (.getfield 10, 3) := by decide +kernel
theorem dX4_share_4 : decode cX4_share 4 = .ok (.iload_n 1, 1) := by decide +kernel
theorem dX4_share_5 : decode cX4_share 5 = .ok (.invokevirtual 107, 3) := by decide +kernel
theorem dX4_share_8 : decode cX4_share 8 = .ok (.ifCond .eq 14, 3) := by decide +kernel
theorem dX4_share_11 : decode cX4_share 11 = .ok (.aload_n 0, 1) := by decide +kernel
theorem dX4_share_12 : decode cX4_share 12 = .ok (.getfield 10, 3) := by decide +kernel
theorem dX4_share_15 : decode cX4_share 15 = .ok (.iload_n 2, 1) := by decide +kernel
theorem dX4_share_16 : decode cX4_share 16 = .ok (.invokevirtual 107, 3) := by decide +kernel
theorem dX4_share_19 : decode cX4_share 19 = .ok (.ifCond .ne 6, 3) := by decide +kernel
theorem dX4_share_22 : decode cX4_share 22 = .ok (.ldc 110, 2) := by decide +kernel
theorem dX4_share_24 : decode cX4_share 24 = .ok (.ireturn, 1) := by decide +kernel
theorem dX4_share_25 : decode cX4_share 25 = .ok (.aload_n 0, 1) := by decide +kernel
theorem dX4_share_26 : decode cX4_share 26 = .ok (.getfield 10, 3) := by decide +kernel
theorem dX4_share_29 : decode cX4_share 29 = .ok (.aload_n 0, 1) := by decide +kernel
theorem dX4_share_30 : decode cX4_share 30 = .ok (.getfield 10, 3) := by decide +kernel
theorem dX4_share_33 : decode cX4_share 33 = .ok (.getfield 115, 3) := by decide +kernel
theorem dX4_share_36 : decode cX4_share 36 = .ok (.iload_n 1, 1) := by decide +kernel
theorem dX4_share_37 : decode cX4_share 37 = .ok (.iaload, 1) := by decide +kernel
theorem dX4_share_38 : decode cX4_share 38 = .ok (.iload_n 2, 1) := by decide +kernel
theorem dX4_share_39 : decode cX4_share 39 = .ok (.invokevirtual 194, 3) := by decide +kernel
theorem dX4_share_42 : decode cX4_share 42 = .ok (.ireturn, 1) := by decide +kernel
set_option maxRecDepth 20000 in
theorem ggX4_alike_X4_areTwoVersions : GoodIn wsX4_alike wsX4_areTwoVersions := goodIn_r _ [8, 2, 9, 10, 11, 12, 13, 14, 35, 36, 37, 38, 39, 40, 41, 42, 43, 44, 45, 46, 47, 48, 49, 50, 51, 52] rfl (by decide +kernel)
set_option maxRecDepth 20000 in
theorem gX4_alike_X4_areTwoVersions : GoodIn wsX4_alike (wsV RX4 197 RX4 yX4_areTwoVersions wsX4_areTwoVersions) := goodIn_app (goodIn_r _ [4, 5, 6, 7] rfl (by decide +kernel)) ggX4_alike_X4_areTwoVersions
set_option maxRecDepth 20000 in
theorem ggX4_alike_X3_countInBoth : GoodIn wsX4_alike wsX3_countInBoth := goodIn_r _ [18, 19, 20, 21, 22, 12, 23, 24, 25, 44, 45, 46, 47, 48, 49, 50, 51, 52] rfl (by decide +kernel)
set_option maxRecDepth 20000 in
theorem gX4_alike_X3_countInBoth : GoodIn wsX4_alike (wsV RX4 200 RX3 yX3_countInBoth wsX3_countInBoth) := goodIn_app (goodIn_r _ [15, 16, 17, 12] rfl (by decide +kernel)) ggX4_alike_X3_countInBoth
set_option maxRecDepth 20000 in
theorem ggX4_alike_X3_countStanding : GoodIn wsX4_alike wsX3_countStanding := goodIn_r _ [29, 30, 16, 17, 12, 18, 19, 20, 21, 22, 23, 24, 25, 44, 45, 46, 47, 48, 49, 50, 51, 52] rfl (by decide +kernel)
set_option maxRecDepth 20000 in
theorem gX4_alike_X3_countStanding : GoodIn wsX4_alike (wsV RX4 124 RX3 yX3_countStanding wsX3_countStanding) := goodIn_app (goodIn_r _ [26, 27, 28, 12] rfl (by decide +kernel)) ggX4_alike_X3_countStanding
set_option maxRecDepth 20000 in
theorem ggX4_alike_X3_findPart : GoodIn wsX4_alike wsX3_findPart := goodIn_r _ [34, 19, 20, 21, 22, 12, 23, 24, 25, 44, 45, 46, 47, 48, 49, 50, 51, 52] rfl (by decide +kernel)
set_option maxRecDepth 20000 in
theorem gX4_alike_X3_findPart : GoodIn wsX4_alike (wsV RX4 203 RX3 yX3_findPart wsX3_findPart) := goodIn_app (goodIn_r _ [31, 32, 33, 12] rfl (by decide +kernel)) ggX4_alike_X3_findPart
theorem dX4_alike_0 : decode cX4_alike 0 = .ok (.aload_n 0, 1) := by decide +kernel
theorem dX4_alike_1 : decode cX4_alike 1 = .ok (.iload_n 1, 1) := by decide +kernel
theorem dX4_alike_2 : decode cX4_alike 2 = .ok (.iload_n 2, 1) := by decide +kernel
theorem dX4_alike_3 : decode cX4_alike 3 = .ok (.invokevirtual 197, 3) := by decide +kernel
theorem dX4_alike_6 : decode cX4_alike 6 = .ok (.ifCond .ne 6, 3) := by decide +kernel
theorem dX4_alike_9 : decode cX4_alike 9 = .ok (.ldc 110, 2) := by decide +kernel
theorem dX4_alike_11 : decode cX4_alike 11 = .ok (.ireturn, 1) := by decide +kernel
theorem dX4_alike_12 : decode cX4_alike 12 = .ok (.aload_n 0, 1) := by decide +kernel
theorem dX4_alike_13 : decode cX4_alike 13 = .ok (.getfield 10, 3) := by decide +kernel
theorem dX4_alike_16 : decode cX4_alike 16 = .ok (.getfield 115, 3) := by decide +kernel
theorem dX4_alike_19 : decode cX4_alike 19 = .ok (.iload_n 1, 1) := by decide +kernel
theorem dX4_alike_20 : decode cX4_alike 20 = .ok (.iaload, 1) := by decide +kernel
theorem dX4_alike_21 : decode cX4_alike 21 = .ok (.istore 4, 2) := by decide +kernel
theorem dX4_alike_23 : decode cX4_alike 23 = .ok (.aload_n 0, 1) := by decide +kernel
theorem dX4_alike_24 : decode cX4_alike 24 = .ok (.getfield 10, 3) := by decide +kernel
theorem dX4_alike_27 : decode cX4_alike 27 = .ok (.getfield 115, 3) := by decide +kernel
theorem dX4_alike_30 : decode cX4_alike 30 = .ok (.iload_n 2, 1) := by decide +kernel
theorem dX4_alike_31 : decode cX4_alike 31 = .ok (.iaload, 1) := by decide +kernel
theorem dX4_alike_32 : decode cX4_alike 32 = .ok (.istore 5, 2) := by decide +kernel
theorem dX4_alike_34 : decode cX4_alike 34 = .ok (.aload_n 0, 1) := by decide +kernel
theorem dX4_alike_35 : decode cX4_alike 35 = .ok (.getfield 10, 3) := by decide +kernel
theorem dX4_alike_38 : decode cX4_alike 38 = .ok (.iload 4, 2) := by decide +kernel
theorem dX4_alike_40 : decode cX4_alike 40 = .ok (.iload 5, 2) := by decide +kernel
theorem dX4_alike_42 : decode cX4_alike 42 = .ok (.invokevirtual 200, 3) := by decide +kernel
theorem dX4_alike_45 : decode cX4_alike 45 = .ok (.istore 6, 2) := by decide +kernel
theorem dX4_alike_47 : decode cX4_alike 47 = .ok (.iload_n 3, 1) := by decide +kernel
theorem dX4_alike_48 : decode cX4_alike 48 = .ok (.tableswitch 73 0 3 #[32, 35, 48, 61], 32) := by decide +kernel
theorem dX4_alike_80 : decode cX4_alike 80 = .ok (.iload 6, 2) := by decide +kernel
theorem dX4_alike_82 : decode cX4_alike 82 = .ok (.ireturn, 1) := by decide +kernel
theorem dX4_alike_83 : decode cX4_alike 83 = .ok (.aload_n 0, 1) := by decide +kernel
theorem dX4_alike_84 : decode cX4_alike 84 = .ok (.getfield 10, 3) := by decide +kernel
theorem dX4_alike_87 : decode cX4_alike 87 = .ok (.iload 4, 2) := by decide +kernel
theorem dX4_alike_89 : decode cX4_alike 89 = .ok (.invokevirtual 124, 3) := by decide +kernel
theorem dX4_alike_92 : decode cX4_alike 92 = .ok (.iload 6, 2) := by decide +kernel
theorem dX4_alike_94 : decode cX4_alike 94 = .ok (.isub, 1) := by decide +kernel
theorem dX4_alike_95 : decode cX4_alike 95 = .ok (.ireturn, 1) := by decide +kernel
theorem dX4_alike_96 : decode cX4_alike 96 = .ok (.aload_n 0, 1) := by decide +kernel
theorem dX4_alike_97 : decode cX4_alike 97 = .ok (.getfield 10, 3) := by decide +kernel
theorem dX4_alike_100 : decode cX4_alike 100 = .ok (.iload 5, 2) := by decide +kernel
theorem dX4_alike_102 : decode cX4_alike 102 = .ok (.invokevirtual 124, 3) := by decide +kernel
theorem dX4_alike_105 : decode cX4_alike 105 = .ok (.iload 6, 2) := by decide +kernel
theorem dX4_alike_107 : decode cX4_alike 107 = .ok (.isub, 1) := by decide +kernel
theorem dX4_alike_108 : decode cX4_alike 108 = .ok (.ireturn, 1) := by decide +kernel
theorem dX4_alike_109 : decode cX4_alike 109 = .ok (.aload_n 0, 1) := by decide +kernel
theorem dX4_alike_110 : decode cX4_alike 110 = .ok (.getfield 10, 3) := by decide +kernel
theorem dX4_alike_113 : decode cX4_alike 113 = .ok (.iload 4, 2) := by decide +kernel
theorem dX4_alike_115 : decode cX4_alike 115 = .ok (.iload 5, 2) := by decide +kernel
theorem dX4_alike_117 : decode cX4_alike 117 = .ok (.invokevirtual 203, 3) := by decide +kernel
theorem dX4_alike_120 : decode cX4_alike 120 = .ok (.ireturn, 1) := by decide +kernel
theorem dX4_alike_121 : decode cX4_alike 121 = .ok (.ldc 56, 2) := by decide +kernel
theorem dX4_alike_123 : decode cX4_alike 123 = .ok (.ireturn, 1) := by decide +kernel
set_option maxRecDepth 20000 in
theorem ggX4_without_X4_areTwoVersions : GoodIn wsX4_without wsX4_areTwoVersions := goodIn_r _ [7, 2, 8, 9, 10, 11, 12, 13, 32, 33, 34, 35, 36, 37, 38, 39, 40, 41, 42, 43, 44, 45, 46, 47, 48, 49] rfl (by decide +kernel)
set_option maxRecDepth 20000 in
theorem gX4_without_X4_areTwoVersions : GoodIn wsX4_without (wsV RX4 197 RX4 yX4_areTwoVersions wsX4_areTwoVersions) := goodIn_app (goodIn_r _ [3, 4, 5, 6] rfl (by decide +kernel)) ggX4_without_X4_areTwoVersions
set_option maxRecDepth 20000 in
theorem ggX4_without_X3_only : GoodIn wsX4_without wsX3_only := goodIn_r _ [16] rfl (by decide +kernel)
set_option maxRecDepth 20000 in
theorem gX4_without_X3_only : GoodIn wsX4_without (va_wsS RX4 206 yX3_only wsX3_only) := goodIn_app (goodIn_r _ [14, 15, 11] rfl (by decide +kernel)) ggX4_without_X3_only
set_option maxRecDepth 20000 in
theorem ggX4_without_X3_countStanding : GoodIn wsX4_without wsX3_countStanding := goodIn_r _ [20, 21, 22, 23, 11, 24, 25, 26, 27, 28, 29, 30, 31, 41, 42, 43, 44, 45, 46, 47, 48, 49] rfl (by decide +kernel)
set_option maxRecDepth 20000 in
theorem gX4_without_X3_countStanding : GoodIn wsX4_without (wsV RX4 124 RX3 yX3_countStanding wsX3_countStanding) := goodIn_app (goodIn_r _ [17, 18, 19, 11] rfl (by decide +kernel)) ggX4_without_X3_countStanding
theorem dX4_without_0 : decode cX4_without 0 = .ok (.aload_n 0, 1) := by decide +kernel
theorem dX4_without_1 : decode cX4_without 1 = .ok (.iload_n 1, 1) := by decide +kernel
theorem dX4_without_2 : decode cX4_without 2 = .ok (.iload_n 2, 1) := by decide +kernel
theorem dX4_without_3 : decode cX4_without 3 = .ok (.invokevirtual 197, 3) := by decide +kernel
theorem dX4_without_6 : decode cX4_without 6 = .ok (.ifCond .ne 6, 3) := by decide +kernel
theorem dX4_without_9 : decode cX4_without 9 = .ok (.ldc 110, 2) := by decide +kernel
theorem dX4_without_11 : decode cX4_without 11 = .ok (.ireturn, 1) := by decide +kernel
theorem dX4_without_12 : decode cX4_without 12 = .ok (.aload_n 0, 1) := by decide +kernel
theorem dX4_without_13 : decode cX4_without 13 = .ok (.getfield 10, 3) := by decide +kernel
theorem dX4_without_16 : decode cX4_without 16 = .ok (.aload_n 0, 1) := by decide +kernel
theorem dX4_without_17 : decode cX4_without 17 = .ok (.getfield 10, 3) := by decide +kernel
theorem dX4_without_20 : decode cX4_without 20 = .ok (.getfield 115, 3) := by decide +kernel
theorem dX4_without_23 : decode cX4_without 23 = .ok (.iload_n 1, 1) := by decide +kernel
theorem dX4_without_24 : decode cX4_without 24 = .ok (.iaload, 1) := by decide +kernel
theorem dX4_without_25 : decode cX4_without 25 = .ok (.iload_n 2, 1) := by decide +kernel
theorem dX4_without_26 : decode cX4_without 26 = .ok (.invokestatic 206, 3) := by decide +kernel
theorem dX4_without_29 : decode cX4_without 29 = .ok (.iconst (-1), 1) := by decide +kernel
theorem dX4_without_30 : decode cX4_without 30 = .ok (.ixor, 1) := by decide +kernel
theorem dX4_without_31 : decode cX4_without 31 = .ok (.iand, 1) := by decide +kernel
theorem dX4_without_32 : decode cX4_without 32 = .ok (.invokevirtual 124, 3) := by decide +kernel
theorem dX4_without_35 : decode cX4_without 35 = .ok (.ireturn, 1) := by decide +kernel
set_option maxRecDepth 20000 in
theorem ggX4_near_X4_areTwoVersions : GoodIn wsX4_near wsX4_areTwoVersions := goodIn_r _ [7, 2, 8, 9, 10, 11, 12, 13, 25, 26, 27, 28, 29, 30, 31, 32, 33, 34, 35, 36, 37, 38, 39, 40, 41, 42] rfl (by decide +kernel)
set_option maxRecDepth 20000 in
theorem gX4_near_X4_areTwoVersions : GoodIn wsX4_near (wsV RX4 197 RX4 yX4_areTwoVersions wsX4_areTwoVersions) := goodIn_app (goodIn_r _ [3, 4, 5, 6] rfl (by decide +kernel)) ggX4_near_X4_areTwoVersions
set_option maxRecDepth 20000 in
theorem ggX4_near_X3_lineageOf : GoodIn wsX4_near wsX3_lineageOf := goodIn_r _ [17, 13, 18, 19, 20, 11, 21, 34, 35, 36, 37, 38, 39, 40, 41, 42] rfl (by decide +kernel)
set_option maxRecDepth 20000 in
theorem gX4_near_X3_lineageOf : GoodIn wsX4_near (wsV RX4 209 RX3 yX3_lineageOf wsX3_lineageOf) := goodIn_app (goodIn_r _ [14, 15, 16, 11] rfl (by decide +kernel)) ggX4_near_X3_lineageOf
set_option maxRecDepth 20000 in
theorem ggX4_near_X3_holds : GoodIn wsX4_near wsX3_holds := goodIn_r _ [24, 19, 20, 11, 21] rfl (by decide +kernel)
set_option maxRecDepth 20000 in
theorem gX4_near_X3_holds : GoodIn wsX4_near (va_wsS RX4 163 yX3_holds wsX3_holds) := goodIn_app (goodIn_r _ [22, 23, 11] rfl (by decide +kernel)) ggX4_near_X3_holds
theorem dX4_near_0 : decode cX4_near 0 = .ok (.aload_n 0, 1) := by decide +kernel
theorem dX4_near_1 : decode cX4_near 1 = .ok (.iload_n 1, 1) := by decide +kernel
theorem dX4_near_2 : decode cX4_near 2 = .ok (.iload_n 2, 1) := by decide +kernel
theorem dX4_near_3 : decode cX4_near 3 = .ok (.invokevirtual 197, 3) := by decide +kernel
theorem dX4_near_6 : decode cX4_near 6 = .ok (.ifCond .ne 6, 3) := by decide +kernel
theorem dX4_near_9 : decode cX4_near 9 = .ok (.ldc 110, 2) := by decide +kernel
theorem dX4_near_11 : decode cX4_near 11 = .ok (.ireturn, 1) := by decide +kernel
theorem dX4_near_12 : decode cX4_near 12 = .ok (.aload_n 0, 1) := by decide +kernel
theorem dX4_near_13 : decode cX4_near 13 = .ok (.getfield 10, 3) := by decide +kernel
theorem dX4_near_16 : decode cX4_near 16 = .ok (.iload_n 1, 1) := by decide +kernel
theorem dX4_near_17 : decode cX4_near 17 = .ok (.invokevirtual 209, 3) := by decide +kernel
theorem dX4_near_20 : decode cX4_near 20 = .ok (.aload_n 0, 1) := by decide +kernel
theorem dX4_near_21 : decode cX4_near 21 = .ok (.getfield 10, 3) := by decide +kernel
theorem dX4_near_24 : decode cX4_near 24 = .ok (.iload_n 2, 1) := by decide +kernel
theorem dX4_near_25 : decode cX4_near 25 = .ok (.invokevirtual 209, 3) := by decide +kernel
theorem dX4_near_28 : decode cX4_near 28 = .ok (.iand, 1) := by decide +kernel
theorem dX4_near_29 : decode cX4_near 29 = .ok (.istore_n 3, 1) := by decide +kernel
theorem dX4_near_30 : decode cX4_near 30 = .ok (.bipush 23, 2) := by decide +kernel
theorem dX4_near_32 : decode cX4_near 32 = .ok (.istore 4, 2) := by decide +kernel
theorem dX4_near_34 : decode cX4_near 34 = .ok (.iload 4, 2) := by decide +kernel
theorem dX4_near_36 : decode cX4_near 36 = .ok (.ifCond .lt 21, 3) := by decide +kernel
theorem dX4_near_39 : decode cX4_near 39 = .ok (.iload_n 3, 1) := by decide +kernel
theorem dX4_near_40 : decode cX4_near 40 = .ok (.iload 4, 2) := by decide +kernel
theorem dX4_near_42 : decode cX4_near 42 = .ok (.invokestatic 163, 3) := by decide +kernel
theorem dX4_near_45 : decode cX4_near 45 = .ok (.ifCond .eq 6, 3) := by decide +kernel
theorem dX4_near_48 : decode cX4_near 48 = .ok (.iload 4, 2) := by decide +kernel
theorem dX4_near_50 : decode cX4_near 50 = .ok (.ireturn, 1) := by decide +kernel
theorem dX4_near_51 : decode cX4_near 51 = .ok (.iinc 4 (-1), 3) := by decide +kernel
theorem dX4_near_54 : decode cX4_near 54 = .ok (.goto (-20), 3) := by decide +kernel
theorem dX4_near_57 : decode cX4_near 57 = .ok (.iconst (-1), 1) := by decide +kernel
theorem dX4_near_58 : decode cX4_near 58 = .ok (.ireturn, 1) := by decide +kernel
set_option maxRecDepth 20000 in
theorem ggX4_block_X3_findBlock : GoodIn wsX4_block wsX3_findBlock := goodIn_r _ [7, 8, 9, 10, 11, 6, 12, 13, 14, 28, 29, 30, 31, 32, 33, 34, 35, 36] rfl (by decide +kernel)
set_option maxRecDepth 20000 in
theorem gX4_block_X3_findBlock : GoodIn wsX4_block (wsV RX4 212 RX3 yX3_findBlock wsX3_findBlock) := goodIn_app (goodIn_r _ [3, 4, 5, 6] rfl (by decide +kernel)) ggX4_block_X3_findBlock
set_option maxRecDepth 20000 in
theorem ggX4_block_X3_blockLength : GoodIn wsX4_block wsX3_blockLength := goodIn_r _ [18, 8, 9, 10, 11, 6, 12, 13, 14, 28, 29, 30, 31, 32, 33, 34, 35, 36] rfl (by decide +kernel)
set_option maxRecDepth 20000 in
theorem gX4_block_X3_blockLength : GoodIn wsX4_block (wsV RX4 215 RX3 yX3_blockLength wsX3_blockLength) := goodIn_app (goodIn_r _ [15, 16, 17, 6] rfl (by decide +kernel)) ggX4_block_X3_blockLength
theorem dX4_block_0 : decode cX4_block 0 = .ok (.iload_n 1, 1) := by decide +kernel
theorem dX4_block_1 : decode cX4_block 1 = .ok (.ifCond .lt 12, 3) := by decide +kernel
theorem dX4_block_4 : decode cX4_block 4 = .ok (.iload_n 2, 1) := by decide +kernel
theorem dX4_block_5 : decode cX4_block 5 = .ok (.ifCond .lt 8, 3) := by decide +kernel
theorem dX4_block_8 : decode cX4_block 8 = .ok (.iload_n 2, 1) := by decide +kernel
theorem dX4_block_9 : decode cX4_block 9 = .ok (.iconst 1, 1) := by decide +kernel
theorem dX4_block_10 : decode cX4_block 10 = .ok (.if_icmp .le 6, 3) := by decide +kernel
theorem dX4_block_13 : decode cX4_block 13 = .ok (.ldc 56, 2) := by decide +kernel
theorem dX4_block_15 : decode cX4_block 15 = .ok (.ireturn, 1) := by decide +kernel
theorem dX4_block_16 : decode cX4_block 16 = .ok (.aload_n 0, 1) := by decide +kernel
theorem dX4_block_17 : decode cX4_block 17 = .ok (.getfield 10, 3) := by decide +kernel
theorem dX4_block_20 : decode cX4_block 20 = .ok (.iload_n 1, 1) := by decide +kernel
theorem dX4_block_21 : decode cX4_block 21 = .ok (.invokevirtual 212, 3) := by decide +kernel
theorem dX4_block_24 : decode cX4_block 24 = .ok (.istore_n 3, 1) := by decide +kernel
theorem dX4_block_25 : decode cX4_block 25 = .ok (.iload_n 3, 1) := by decide +kernel
theorem dX4_block_26 : decode cX4_block 26 = .ok (.iconst (-1), 1) := by decide +kernel
theorem dX4_block_27 : decode cX4_block 27 = .ok (.if_icmp .eq 7, 3) := by decide +kernel
theorem dX4_block_30 : decode cX4_block 30 = .ok (.iload_n 2, 1) := by decide +kernel
theorem dX4_block_31 : decode cX4_block 31 = .ok (.ifCond .ne 5, 3) := by decide +kernel
theorem dX4_block_34 : decode cX4_block 34 = .ok (.iload_n 3, 1) := by decide +kernel
theorem dX4_block_35 : decode cX4_block 35 = .ok (.ireturn, 1) := by decide +kernel
theorem dX4_block_36 : decode cX4_block 36 = .ok (.aload_n 0, 1) := by decide +kernel
theorem dX4_block_37 : decode cX4_block 37 = .ok (.getfield 10, 3) := by decide +kernel
theorem dX4_block_40 : decode cX4_block 40 = .ok (.iload_n 3, 1) := by decide +kernel
theorem dX4_block_41 : decode cX4_block 41 = .ok (.invokevirtual 215, 3) := by decide +kernel
theorem dX4_block_44 : decode cX4_block 44 = .ok (.ireturn, 1) := by decide +kernel
set_option maxRecDepth 20000 in
theorem ggX4_sheet_X2_hasNumber : GoodIn wsX4_sheet wsX2_hasNumber := goodIn_r _ [8] rfl (by decide +kernel)
set_option maxRecDepth 20000 in
theorem gX4_sheet_X2_hasNumber : GoodIn wsX4_sheet (wsV RX4 218 RX2 yX2_hasNumber wsX2_hasNumber) := goodIn_app (goodIn_r _ [4, 5, 6, 7] rfl (by decide +kernel)) ggX4_sheet_X2_hasNumber
set_option maxRecDepth 20000 in
theorem ggX4_sheet_X2_lay : GoodIn wsX4_sheet wsX2_lay := goodIn_r _ [12, 13, 14, 24, 25] rfl (by decide +kernel)
set_option maxRecDepth 20000 in
theorem gX4_sheet_X2_lay : GoodIn wsX4_sheet (wsV RX4 221 RX2 yX2_lay wsX2_lay) := goodIn_app (goodIn_r _ [9, 10, 11, 7] rfl (by decide +kernel)) ggX4_sheet_X2_lay
theorem dX4_sheet_0 : decode cX4_sheet 0 = .ok (.aload_n 0, 1) := by decide +kernel
theorem dX4_sheet_1 : decode cX4_sheet 1 = .ok (.getfield 37, 3) := by decide +kernel
theorem dX4_sheet_4 : decode cX4_sheet 4 = .ok (.iload_n 1, 1) := by decide +kernel
theorem dX4_sheet_5 : decode cX4_sheet 5 = .ok (.invokevirtual 218, 3) := by decide +kernel
theorem dX4_sheet_8 : decode cX4_sheet 8 = .ok (.ifCond .ne 6, 3) := by decide +kernel
theorem dX4_sheet_11 : decode cX4_sheet 11 = .ok (.ldc 110, 2) := by decide +kernel
theorem dX4_sheet_13 : decode cX4_sheet 13 = .ok (.ireturn, 1) := by decide +kernel
theorem dX4_sheet_14 : decode cX4_sheet 14 = .ok (.iload_n 2, 1) := by decide +kernel
theorem dX4_sheet_15 : decode cX4_sheet 15 = .ok (.ifCond .lt 9, 3) := by decide +kernel
theorem dX4_sheet_18 : decode cX4_sheet 18 = .ok (.iload_n 2, 1) := by decide +kernel
theorem dX4_sheet_19 : decode cX4_sheet 19 = .ok (.bipush 40, 2) := by decide +kernel
theorem dX4_sheet_21 : decode cX4_sheet 21 = .ok (.if_icmp .le 6, 3) := by decide +kernel
theorem dX4_sheet_24 : decode cX4_sheet 24 = .ok (.ldc 56, 2) := by decide +kernel
theorem dX4_sheet_26 : decode cX4_sheet 26 = .ok (.ireturn, 1) := by decide +kernel
theorem dX4_sheet_27 : decode cX4_sheet 27 = .ok (.aload_n 0, 1) := by decide +kernel
theorem dX4_sheet_28 : decode cX4_sheet 28 = .ok (.getfield 37, 3) := by decide +kernel
theorem dX4_sheet_31 : decode cX4_sheet 31 = .ok (.iload_n 1, 1) := by decide +kernel
theorem dX4_sheet_32 : decode cX4_sheet 32 = .ok (.iload_n 2, 1) := by decide +kernel
theorem dX4_sheet_33 : decode cX4_sheet 33 = .ok (.invokevirtual 221, 3) := by decide +kernel
theorem dX4_sheet_36 : decode cX4_sheet 36 = .ok (.iload_n 2, 1) := by decide +kernel
theorem dX4_sheet_37 : decode cX4_sheet 37 = .ok (.ireturn, 1) := by decide +kernel
set_option maxRecDepth 20000 in
theorem ggX4_set_X2_findWrong : GoodIn wsX4_set wsX2_findWrong := goodIn_r _ [6, 7, 8, 9, 10, 11, 12, 13, 5, 14, 24, 25] rfl (by decide +kernel)
set_option maxRecDepth 20000 in
theorem gX4_set_X2_findWrong : GoodIn wsX4_set (wsV RX4 225 RX2 yX2_findWrong wsX2_findWrong) := goodIn_app (goodIn_r _ [2, 3, 4, 5] rfl (by decide +kernel)) ggX4_set_X2_findWrong
theorem dX4_set_0 : decode cX4_set 0 = .ok (.aload_n 0, 1) := by decide +kernel
theorem dX4_set_1 : decode cX4_set 1 = .ok (.getfield 37, 3) := by decide +kernel
theorem dX4_set_4 : decode cX4_set 4 = .ok (.iload_n 1, 1) := by decide +kernel
theorem dX4_set_5 : decode cX4_set 5 = .ok (.iload_n 2, 1) := by decide +kernel
theorem dX4_set_6 : decode cX4_set 6 = .ok (.iconst 1, 1) := by decide +kernel
theorem dX4_set_7 : decode cX4_set 7 = .ok (.invokevirtual 225, 3) := by decide +kernel
theorem dX4_set_10 : decode cX4_set 10 = .ok (.istore 5, 2) := by decide +kernel
theorem dX4_set_12 : decode cX4_set 12 = .ok (.iload 5, 2) := by decide +kernel
theorem dX4_set_14 : decode cX4_set 14 = .ok (.ifCond .eq 7, 3) := by decide +kernel
theorem dX4_set_17 : decode cX4_set 17 = .ok (.iload 5, 2) := by decide +kernel
theorem dX4_set_19 : decode cX4_set 19 = .ok (.i2l, 1) := by decide +kernel
theorem dX4_set_20 : decode cX4_set 20 = .ok (.lreturn, 1) := by decide +kernel
theorem dX4_set_21 : decode cX4_set 21 = .ok (.aload_n 0, 1) := by decide +kernel
theorem dX4_set_22 : decode cX4_set 22 = .ok (.getfield 37, 3) := by decide +kernel
theorem dX4_set_25 : decode cX4_set 25 = .ok (.getfield 229, 3) := by decide +kernel
theorem dX4_set_28 : decode cX4_set 28 = .ok (.iload_n 1, 1) := by decide +kernel
theorem dX4_set_29 : decode cX4_set 29 = .ok (.aaload, 1) := by decide +kernel
theorem dX4_set_30 : decode cX4_set 30 = .ok (.iload_n 2, 1) := by decide +kernel
theorem dX4_set_31 : decode cX4_set 31 = .ok (.laload, 1) := by decide +kernel
theorem dX4_set_32 : decode cX4_set 32 = .ok (.lstore 6, 2) := by decide +kernel
theorem dX4_set_34 : decode cX4_set 34 = .ok (.aload_n 0, 1) := by decide +kernel
theorem dX4_set_35 : decode cX4_set 35 = .ok (.getfield 37, 3) := by decide +kernel
theorem dX4_set_38 : decode cX4_set 38 = .ok (.getfield 229, 3) := by decide +kernel
theorem dX4_set_41 : decode cX4_set 41 = .ok (.iload_n 1, 1) := by decide +kernel
theorem dX4_set_42 : decode cX4_set 42 = .ok (.aaload, 1) := by decide +kernel
theorem dX4_set_43 : decode cX4_set 43 = .ok (.iload_n 2, 1) := by decide +kernel
theorem dX4_set_44 : decode cX4_set 44 = .ok (.lload_n 3, 1) := by decide +kernel
theorem dX4_set_45 : decode cX4_set 45 = .ok (.lastore, 1) := by decide +kernel
theorem dX4_set_46 : decode cX4_set 46 = .ok (.lload 6, 2) := by decide +kernel
theorem dX4_set_48 : decode cX4_set 48 = .ok (.lreturn, 1) := by decide +kernel
set_option maxRecDepth 20000 in
theorem ggX4_get_X2_findWrong : GoodIn wsX4_get wsX2_findWrong := goodIn_r _ [6, 7, 8, 9, 10, 11, 12, 13, 5, 14, 24, 25] rfl (by decide +kernel)
set_option maxRecDepth 20000 in
theorem gX4_get_X2_findWrong : GoodIn wsX4_get (wsV RX4 225 RX2 yX2_findWrong wsX2_findWrong) := goodIn_app (goodIn_r _ [2, 3, 4, 5] rfl (by decide +kernel)) ggX4_get_X2_findWrong
theorem dX4_get_0 : decode cX4_get 0 = .ok (.aload_n 0, 1) := by decide +kernel
theorem dX4_get_1 : decode cX4_get 1 = .ok (.getfield 37, 3) := by decide +kernel
theorem dX4_get_4 : decode cX4_get 4 = .ok (.iload_n 1, 1) := by decide +kernel
theorem dX4_get_5 : decode cX4_get 5 = .ok (.iload_n 2, 1) := by decide +kernel
theorem dX4_get_6 : decode cX4_get 6 = .ok (.iconst 1, 1) := by decide +kernel
theorem dX4_get_7 : decode cX4_get 7 = .ok (.invokevirtual 225, 3) := by decide +kernel
theorem dX4_get_10 : decode cX4_get 10 = .ok (.istore_n 3, 1) := by decide +kernel
theorem dX4_get_11 : decode cX4_get 11 = .ok (.iload_n 3, 1) := by decide +kernel
theorem dX4_get_12 : decode cX4_get 12 = .ok (.ifCond .eq 8, 3) := by decide +kernel
theorem dX4_get_15 : decode cX4_get 15 = .ok (.iload_n 3, 1) := by decide +kernel
theorem dX4_get_16 : decode cX4_get 16 = .ok (.i2l, 1) := by decide +kernel
theorem dX4_get_17 : decode cX4_get 17 = .ok (.goto 14, 3) := by decide +kernel
theorem dX4_get_20 : decode cX4_get 20 = .ok (.aload_n 0, 1) := by decide +kernel
theorem dX4_get_21 : decode cX4_get 21 = .ok (.getfield 37, 3) := by decide +kernel
theorem dX4_get_24 : decode cX4_get 24 = .ok (.getfield 229, 3) := by decide +kernel
theorem dX4_get_27 : decode cX4_get 27 = .ok (.iload_n 1, 1) := by decide +kernel
theorem dX4_get_28 : decode cX4_get 28 = .ok (.aaload, 1) := by decide +kernel
theorem dX4_get_29 : decode cX4_get 29 = .ok (.iload_n 2, 1) := by decide +kernel
theorem dX4_get_30 : decode cX4_get 30 = .ok (.laload, 1) := by decide +kernel
theorem dX4_get_31 : decode cX4_get 31 = .ok (.lreturn, 1) := by decide +kernel
set_option maxRecDepth 20000 in
theorem ggX4_drop_X2_findWrong : GoodIn wsX4_drop wsX2_findWrong := goodIn_r _ [6, 7, 8, 9, 10, 11, 12, 13, 5, 14, 24, 25] rfl (by decide +kernel)
set_option maxRecDepth 20000 in
theorem gX4_drop_X2_findWrong : GoodIn wsX4_drop (wsV RX4 225 RX2 yX2_findWrong wsX2_findWrong) := goodIn_app (goodIn_r _ [2, 3, 4, 5] rfl (by decide +kernel)) ggX4_drop_X2_findWrong
theorem dX4_drop_0 : decode cX4_drop 0 = .ok (.aload_n 0, 1) := by decide +kernel
theorem dX4_drop_1 : decode cX4_drop 1 = .ok (.getfield 37, 3) := by decide +kernel
theorem dX4_drop_4 : decode cX4_drop 4 = .ok (.iload_n 1, 1) := by decide +kernel
theorem dX4_drop_5 : decode cX4_drop 5 = .ok (.iconst 0, 1) := by decide +kernel
theorem dX4_drop_6 : decode cX4_drop 6 = .ok (.iconst 0, 1) := by decide +kernel
theorem dX4_drop_7 : decode cX4_drop 7 = .ok (.invokevirtual 225, 3) := by decide +kernel
theorem dX4_drop_10 : decode cX4_drop 10 = .ok (.istore_n 2, 1) := by decide +kernel
theorem dX4_drop_11 : decode cX4_drop 11 = .ok (.iload_n 2, 1) := by decide +kernel
theorem dX4_drop_12 : decode cX4_drop 12 = .ok (.ifCond .eq 5, 3) := by decide +kernel
theorem dX4_drop_15 : decode cX4_drop 15 = .ok (.iload_n 2, 1) := by decide +kernel
theorem dX4_drop_16 : decode cX4_drop 16 = .ok (.ireturn, 1) := by decide +kernel
theorem dX4_drop_17 : decode cX4_drop 17 = .ok (.aload_n 0, 1) := by decide +kernel
theorem dX4_drop_18 : decode cX4_drop 18 = .ok (.getfield 37, 3) := by decide +kernel
theorem dX4_drop_21 : decode cX4_drop 21 = .ok (.getfield 233, 3) := by decide +kernel
theorem dX4_drop_24 : decode cX4_drop 24 = .ok (.iload_n 1, 1) := by decide +kernel
theorem dX4_drop_25 : decode cX4_drop 25 = .ok (.iaload, 1) := by decide +kernel
theorem dX4_drop_26 : decode cX4_drop 26 = .ok (.istore_n 3, 1) := by decide +kernel
theorem dX4_drop_27 : decode cX4_drop 27 = .ok (.aload_n 0, 1) := by decide +kernel
theorem dX4_drop_28 : decode cX4_drop 28 = .ok (.getfield 37, 3) := by decide +kernel
theorem dX4_drop_31 : decode cX4_drop 31 = .ok (.getfield 233, 3) := by decide +kernel
theorem dX4_drop_34 : decode cX4_drop 34 = .ok (.iload_n 1, 1) := by decide +kernel
theorem dX4_drop_35 : decode cX4_drop 35 = .ok (.iconst (-1), 1) := by decide +kernel
theorem dX4_drop_36 : decode cX4_drop 36 = .ok (.iastore, 1) := by decide +kernel
theorem dX4_drop_37 : decode cX4_drop 37 = .ok (.iload_n 3, 1) := by decide +kernel
theorem dX4_drop_38 : decode cX4_drop 38 = .ok (.ireturn, 1) := by decide +kernel
set_option maxRecDepth 20000 in
theorem ggX4_film_X3_hasVersion : GoodIn wsX4_film wsX3_hasVersion := goodIn_r _ [8, 9, 63, 64, 65, 66, 67, 68, 69, 70, 71] rfl (by decide +kernel)
set_option maxRecDepth 20000 in
theorem gX4_film_X3_hasVersion : GoodIn wsX4_film (wsV RX4 107 RX3 yX3_hasVersion wsX3_hasVersion) := goodIn_app (goodIn_r _ [4, 5, 6, 7] rfl (by decide +kernel)) ggX4_film_X3_hasVersion
set_option maxRecDepth 20000 in
theorem ggX4_film_X3_countStanding : GoodIn wsX4_film wsX3_countStanding := goodIn_r _ [13, 14, 15, 16, 7, 17, 18, 19, 20, 21, 22, 23, 24, 63, 64, 65, 66, 67, 68, 69, 70, 71] rfl (by decide +kernel)
set_option maxRecDepth 20000 in
theorem gX4_film_X3_countStanding : GoodIn wsX4_film (wsV RX4 124 RX3 yX3_countStanding wsX3_countStanding) := goodIn_app (goodIn_r _ [10, 11, 12, 7] rfl (by decide +kernel)) ggX4_film_X3_countStanding
set_option maxRecDepth 20000 in
theorem ggX4_film_X2_findWrong : GoodIn wsX4_film wsX2_findWrong := goodIn_r _ [29, 30, 31, 32, 33, 34, 35, 36, 28, 37, 72, 73] rfl (by decide +kernel)
set_option maxRecDepth 20000 in
theorem gX4_film_X2_findWrong : GoodIn wsX4_film (wsV RX4 225 RX2 yX2_findWrong wsX2_findWrong) := goodIn_app (goodIn_r _ [25, 26, 27, 28] rfl (by decide +kernel)) ggX4_film_X2_findWrong
set_option maxRecDepth 20000 in
theorem ggX4_film_X3_stands : GoodIn wsX4_film wsX3_stands := goodIn_r _ [22, 23, 24, 63, 64, 65, 66, 67, 68, 69, 70, 71] rfl (by decide +kernel)
set_option maxRecDepth 20000 in
theorem gX4_film_X3_stands : GoodIn wsX4_film (wsV RX4 236 RX3 yX3_stands wsX3_stands) := goodIn_app (goodIn_r _ [38, 20, 21, 7] rfl (by decide +kernel)) ggX4_film_X3_stands
set_option maxRecDepth 20000 in
theorem ggX4_film_X3_pictureOf : GoodIn wsX4_film wsX3_pictureOf := goodIn_r _ [42, 43, 44, 23, 45, 46, 47, 48, 7, 49, 9, 50, 19, 20, 21, 22, 24, 51, 52, 53, 63, 64, 65, 66, 67, 68, 69, 70, 71] rfl (by decide +kernel)
set_option maxRecDepth 20000 in
theorem gX4_film_X3_pictureOf : GoodIn wsX4_film (wsV RX4 239 RX3 yX3_pictureOf wsX3_pictureOf) := goodIn_app (goodIn_r _ [39, 40, 41, 7] rfl (by decide +kernel)) ggX4_film_X3_pictureOf
theorem dX4_film_0 : decode cX4_film 0 = .ok (.aload_n 0, 1) := by decide +kernel
theorem dX4_film_1 : decode cX4_film 1 = .ok (.getfield 10, 3) := by decide +kernel
theorem dX4_film_4 : decode cX4_film 4 = .ok (.iload_n 1, 1) := by decide +kernel
theorem dX4_film_5 : decode cX4_film 5 = .ok (.invokevirtual 107, 3) := by decide +kernel
theorem dX4_film_8 : decode cX4_film 8 = .ok (.ifCond .ne 6, 3) := by decide +kernel
theorem dX4_film_11 : decode cX4_film 11 = .ok (.ldc 110, 2) := by decide +kernel
theorem dX4_film_13 : decode cX4_film 13 = .ok (.ireturn, 1) := by decide +kernel
theorem dX4_film_14 : decode cX4_film 14 = .ok (.aload_n 0, 1) := by decide +kernel
theorem dX4_film_15 : decode cX4_film 15 = .ok (.getfield 10, 3) := by decide +kernel
theorem dX4_film_18 : decode cX4_film 18 = .ok (.aload_n 0, 1) := by decide +kernel
theorem dX4_film_19 : decode cX4_film 19 = .ok (.getfield 10, 3) := by decide +kernel
theorem dX4_film_22 : decode cX4_film 22 = .ok (.getfield 115, 3) := by decide +kernel
theorem dX4_film_25 : decode cX4_film 25 = .ok (.iload_n 1, 1) := by decide +kernel
theorem dX4_film_26 : decode cX4_film 26 = .ok (.iaload, 1) := by decide +kernel
theorem dX4_film_27 : decode cX4_film 27 = .ok (.invokevirtual 124, 3) := by decide +kernel
theorem dX4_film_30 : decode cX4_film 30 = .ok (.istore 4, 2) := by decide +kernel
theorem dX4_film_32 : decode cX4_film 32 = .ok (.aload_n 0, 1) := by decide +kernel
theorem dX4_film_33 : decode cX4_film 33 = .ok (.getfield 37, 3) := by decide +kernel
theorem dX4_film_36 : decode cX4_film 36 = .ok (.iload_n 2, 1) := by decide +kernel
theorem dX4_film_37 : decode cX4_film 37 = .ok (.iload_n 3, 1) := by decide +kernel
theorem dX4_film_38 : decode cX4_film 38 = .ok (.iload 4, 2) := by decide +kernel
theorem dX4_film_40 : decode cX4_film 40 = .ok (.invokevirtual 225, 3) := by decide +kernel
theorem dX4_film_43 : decode cX4_film 43 = .ok (.istore 5, 2) := by decide +kernel
theorem dX4_film_45 : decode cX4_film 45 = .ok (.iload 5, 2) := by decide +kernel
theorem dX4_film_47 : decode cX4_film 47 = .ok (.ifCond .eq 6, 3) := by decide +kernel
theorem dX4_film_50 : decode cX4_film 50 = .ok (.iload 5, 2) := by decide +kernel
theorem dX4_film_52 : decode cX4_film 52 = .ok (.ireturn, 1) := by decide +kernel
theorem dX4_film_53 : decode cX4_film 53 = .ok (.iload_n 3, 1) := by decide +kernel
theorem dX4_film_54 : decode cX4_film 54 = .ok (.istore 6, 2) := by decide +kernel
theorem dX4_film_56 : decode cX4_film 56 = .ok (.iconst 0, 1) := by decide +kernel
theorem dX4_film_57 : decode cX4_film 57 = .ok (.istore 7, 2) := by decide +kernel
theorem dX4_film_59 : decode cX4_film 59 = .ok (.iload 7, 2) := by decide +kernel
theorem dX4_film_61 : decode cX4_film 61 = .ok (.aload_n 0, 1) := by decide +kernel
theorem dX4_film_62 : decode cX4_film 62 = .ok (.getfield 10, 3) := by decide +kernel
theorem dX4_film_65 : decode cX4_film 65 = .ok (.getfield 85, 3) := by decide +kernel
theorem dX4_film_68 : decode cX4_film 68 = .ok (.if_icmp .ge 54, 3) := by decide +kernel
theorem dX4_film_71 : decode cX4_film 71 = .ok (.aload_n 0, 1) := by decide +kernel
theorem dX4_film_72 : decode cX4_film 72 = .ok (.getfield 10, 3) := by decide +kernel
theorem dX4_film_75 : decode cX4_film 75 = .ok (.iload 7, 2) := by decide +kernel
theorem dX4_film_77 : decode cX4_film 77 = .ok (.aload_n 0, 1) := by decide +kernel
theorem dX4_film_78 : decode cX4_film 78 = .ok (.getfield 10, 3) := by decide +kernel
theorem dX4_film_81 : decode cX4_film 81 = .ok (.getfield 115, 3) := by decide +kernel
theorem dX4_film_84 : decode cX4_film 84 = .ok (.iload_n 1, 1) := by decide +kernel
theorem dX4_film_85 : decode cX4_film 85 = .ok (.iaload, 1) := by decide +kernel
theorem dX4_film_86 : decode cX4_film 86 = .ok (.invokevirtual 236, 3) := by decide +kernel
theorem dX4_film_89 : decode cX4_film 89 = .ok (.ifCond .eq 27, 3) := by decide +kernel
theorem dX4_film_92 : decode cX4_film 92 = .ok (.aload_n 0, 1) := by decide +kernel
theorem dX4_film_93 : decode cX4_film 93 = .ok (.getfield 37, 3) := by decide +kernel
theorem dX4_film_96 : decode cX4_film 96 = .ok (.getfield 229, 3) := by decide +kernel
theorem dX4_film_99 : decode cX4_film 99 = .ok (.iload_n 2, 1) := by decide +kernel
theorem dX4_film_100 : decode cX4_film 100 = .ok (.aaload, 1) := by decide +kernel
theorem dX4_film_101 : decode cX4_film 101 = .ok (.iload 6, 2) := by decide +kernel
theorem dX4_film_103 : decode cX4_film 103 = .ok (.aload_n 0, 1) := by decide +kernel
theorem dX4_film_104 : decode cX4_film 104 = .ok (.getfield 10, 3) := by decide +kernel
theorem dX4_film_107 : decode cX4_film 107 = .ok (.iload 7, 2) := by decide +kernel
theorem dX4_film_109 : decode cX4_film 109 = .ok (.invokevirtual 239, 3) := by decide +kernel
theorem dX4_film_112 : decode cX4_film 112 = .ok (.lastore, 1) := by decide +kernel
theorem dX4_film_113 : decode cX4_film 113 = .ok (.iinc 6 1, 3) := by decide +kernel
theorem dX4_film_116 : decode cX4_film 116 = .ok (.iinc 7 1, 3) := by decide +kernel
theorem dX4_film_119 : decode cX4_film 119 = .ok (.goto (-60), 3) := by decide +kernel
theorem dX4_film_122 : decode cX4_film 122 = .ok (.iload 4, 2) := by decide +kernel
theorem dX4_film_124 : decode cX4_film 124 = .ok (.ireturn, 1) := by decide +kernel
set_option maxRecDepth 20000 in
theorem ggX4_isFilm_X3_hasVersion : GoodIn wsX4_isFilm wsX3_hasVersion := goodIn_r _ [10, 11, 51, 52, 53, 54, 55, 56, 57, 58, 59] rfl (by decide +kernel)
set_option maxRecDepth 20000 in
theorem gX4_isFilm_X3_hasVersion : GoodIn wsX4_isFilm (wsV RX4 107 RX3 yX3_hasVersion wsX3_hasVersion) := goodIn_app (goodIn_r _ [6, 7, 8, 9] rfl (by decide +kernel)) ggX4_isFilm_X3_hasVersion
set_option maxRecDepth 20000 in
theorem ggX4_isFilm_X2_hasNumber : GoodIn wsX4_isFilm wsX2_hasNumber := goodIn_r _ [16] rfl (by decide +kernel)
set_option maxRecDepth 20000 in
theorem gX4_isFilm_X2_hasNumber : GoodIn wsX4_isFilm (wsV RX4 218 RX2 yX2_hasNumber wsX2_hasNumber) := goodIn_app (goodIn_r _ [12, 13, 14, 15] rfl (by decide +kernel)) ggX4_isFilm_X2_hasNumber
set_option maxRecDepth 20000 in
theorem ggX4_isFilm_X2_findWrong : GoodIn wsX4_isFilm wsX2_findWrong := goodIn_r _ [20, 21, 22, 23, 24, 25, 13, 14, 15, 16, 60, 61] rfl (by decide +kernel)
set_option maxRecDepth 20000 in
theorem gX4_isFilm_X2_findWrong : GoodIn wsX4_isFilm (wsV RX4 225 RX2 yX2_findWrong wsX2_findWrong) := goodIn_app (goodIn_r _ [17, 18, 19, 15] rfl (by decide +kernel)) ggX4_isFilm_X2_findWrong
set_option maxRecDepth 20000 in
theorem ggX4_isFilm_X3_countStanding : GoodIn wsX4_isFilm wsX3_countStanding := goodIn_r _ [29, 30, 31, 32, 9, 33, 34, 35, 36, 37, 38, 39, 40, 51, 52, 53, 54, 55, 56, 57, 58, 59] rfl (by decide +kernel)
set_option maxRecDepth 20000 in
theorem gX4_isFilm_X3_countStanding : GoodIn wsX4_isFilm (wsV RX4 124 RX3 yX3_countStanding wsX3_countStanding) := goodIn_app (goodIn_r _ [26, 27, 28, 9] rfl (by decide +kernel)) ggX4_isFilm_X3_countStanding
set_option maxRecDepth 20000 in
theorem ggX4_isFilm_X3_stands : GoodIn wsX4_isFilm wsX3_stands := goodIn_r _ [38, 39, 40, 51, 52, 53, 54, 55, 56, 57, 58, 59] rfl (by decide +kernel)
set_option maxRecDepth 20000 in
theorem gX4_isFilm_X3_stands : GoodIn wsX4_isFilm (wsV RX4 236 RX3 yX3_stands wsX3_stands) := goodIn_app (goodIn_r _ [41, 36, 37, 9] rfl (by decide +kernel)) ggX4_isFilm_X3_stands
theorem dX4_isFilm_0 : decode cX4_isFilm 0 = .ok (.aload_n 0, 1) := by decide +kernel
theorem dX4_isFilm_1 : decode cX4_isFilm 1 = .ok (.getfield 10, 3) := by decide +kernel
theorem dX4_isFilm_4 : decode cX4_isFilm 4 = .ok (.iload_n 1, 1) := by decide +kernel
theorem dX4_isFilm_5 : decode cX4_isFilm 5 = .ok (.invokevirtual 107, 3) := by decide +kernel
theorem dX4_isFilm_8 : decode cX4_isFilm 8 = .ok (.ifCond .eq 14, 3) := by decide +kernel
theorem dX4_isFilm_11 : decode cX4_isFilm 11 = .ok (.aload_n 0, 1) := by decide +kernel
theorem dX4_isFilm_12 : decode cX4_isFilm 12 = .ok (.getfield 37, 3) := by decide +kernel
theorem dX4_isFilm_15 : decode cX4_isFilm 15 = .ok (.iload_n 2, 1) := by decide +kernel
theorem dX4_isFilm_16 : decode cX4_isFilm 16 = .ok (.invokevirtual 218, 3) := by decide +kernel
theorem dX4_isFilm_19 : decode cX4_isFilm 19 = .ok (.ifCond .ne 6, 3) := by decide +kernel
theorem dX4_isFilm_22 : decode cX4_isFilm 22 = .ok (.ldc 110, 2) := by decide +kernel
theorem dX4_isFilm_24 : decode cX4_isFilm 24 = .ok (.ireturn, 1) := by decide +kernel
theorem dX4_isFilm_25 : decode cX4_isFilm 25 = .ok (.iload 4, 2) := by decide +kernel
theorem dX4_isFilm_27 : decode cX4_isFilm 27 = .ok (.ifCond .ge 6, 3) := by decide +kernel
theorem dX4_isFilm_30 : decode cX4_isFilm 30 = .ok (.ldc 56, 2) := by decide +kernel
theorem dX4_isFilm_32 : decode cX4_isFilm 32 = .ok (.ireturn, 1) := by decide +kernel
theorem dX4_isFilm_33 : decode cX4_isFilm 33 = .ok (.aload_n 0, 1) := by decide +kernel
theorem dX4_isFilm_34 : decode cX4_isFilm 34 = .ok (.getfield 37, 3) := by decide +kernel
theorem dX4_isFilm_37 : decode cX4_isFilm 37 = .ok (.iload_n 2, 1) := by decide +kernel
theorem dX4_isFilm_38 : decode cX4_isFilm 38 = .ok (.iload_n 3, 1) := by decide +kernel
theorem dX4_isFilm_39 : decode cX4_isFilm 39 = .ok (.iload 4, 2) := by decide +kernel
theorem dX4_isFilm_41 : decode cX4_isFilm 41 = .ok (.invokevirtual 225, 3) := by decide +kernel
theorem dX4_isFilm_44 : decode cX4_isFilm 44 = .ok (.istore 5, 2) := by decide +kernel
theorem dX4_isFilm_46 : decode cX4_isFilm 46 = .ok (.iload 5, 2) := by decide +kernel
theorem dX4_isFilm_48 : decode cX4_isFilm 48 = .ok (.ifCond .eq 6, 3) := by decide +kernel
theorem dX4_isFilm_51 : decode cX4_isFilm 51 = .ok (.iload 5, 2) := by decide +kernel
theorem dX4_isFilm_53 : decode cX4_isFilm 53 = .ok (.ireturn, 1) := by decide +kernel
theorem dX4_isFilm_54 : decode cX4_isFilm 54 = .ok (.iload 4, 2) := by decide +kernel
theorem dX4_isFilm_56 : decode cX4_isFilm 56 = .ok (.aload_n 0, 1) := by decide +kernel
theorem dX4_isFilm_57 : decode cX4_isFilm 57 = .ok (.getfield 10, 3) := by decide +kernel
theorem dX4_isFilm_60 : decode cX4_isFilm 60 = .ok (.aload_n 0, 1) := by decide +kernel
theorem dX4_isFilm_61 : decode cX4_isFilm 61 = .ok (.getfield 10, 3) := by decide +kernel
theorem dX4_isFilm_64 : decode cX4_isFilm 64 = .ok (.getfield 115, 3) := by decide +kernel
theorem dX4_isFilm_67 : decode cX4_isFilm 67 = .ok (.iload_n 1, 1) := by decide +kernel
theorem dX4_isFilm_68 : decode cX4_isFilm 68 = .ok (.iaload, 1) := by decide +kernel
theorem dX4_isFilm_69 : decode cX4_isFilm 69 = .ok (.invokevirtual 124, 3) := by decide +kernel
theorem dX4_isFilm_72 : decode cX4_isFilm 72 = .ok (.if_icmp .eq 5, 3) := by decide +kernel
theorem dX4_isFilm_75 : decode cX4_isFilm 75 = .ok (.iconst 0, 1) := by decide +kernel
theorem dX4_isFilm_76 : decode cX4_isFilm 76 = .ok (.ireturn, 1) := by decide +kernel
theorem dX4_isFilm_77 : decode cX4_isFilm 77 = .ok (.iload_n 3, 1) := by decide +kernel
theorem dX4_isFilm_78 : decode cX4_isFilm 78 = .ok (.istore 6, 2) := by decide +kernel
theorem dX4_isFilm_80 : decode cX4_isFilm 80 = .ok (.iconst 0, 1) := by decide +kernel
theorem dX4_isFilm_81 : decode cX4_isFilm 81 = .ok (.istore 7, 2) := by decide +kernel
theorem dX4_isFilm_83 : decode cX4_isFilm 83 = .ok (.iload 7, 2) := by decide +kernel
theorem dX4_isFilm_85 : decode cX4_isFilm 85 = .ok (.aload_n 0, 1) := by decide +kernel
theorem dX4_isFilm_86 : decode cX4_isFilm 86 = .ok (.getfield 10, 3) := by decide +kernel
theorem dX4_isFilm_89 : decode cX4_isFilm 89 = .ok (.getfield 85, 3) := by decide +kernel
theorem dX4_isFilm_92 : decode cX4_isFilm 92 = .ok (.if_icmp .ge 66, 3) := by decide +kernel
theorem dX4_isFilm_95 : decode cX4_isFilm 95 = .ok (.aload_n 0, 1) := by decide +kernel
theorem dX4_isFilm_96 : decode cX4_isFilm 96 = .ok (.getfield 10, 3) := by decide +kernel
theorem dX4_isFilm_99 : decode cX4_isFilm 99 = .ok (.iload 7, 2) := by decide +kernel
theorem dX4_isFilm_101 : decode cX4_isFilm 101 = .ok (.aload_n 0, 1) := by decide +kernel
theorem dX4_isFilm_102 : decode cX4_isFilm 102 = .ok (.getfield 10, 3) := by decide +kernel
theorem dX4_isFilm_105 : decode cX4_isFilm 105 = .ok (.getfield 115, 3) := by decide +kernel
theorem dX4_isFilm_108 : decode cX4_isFilm 108 = .ok (.iload_n 1, 1) := by decide +kernel
theorem dX4_isFilm_109 : decode cX4_isFilm 109 = .ok (.iaload, 1) := by decide +kernel
theorem dX4_isFilm_110 : decode cX4_isFilm 110 = .ok (.invokevirtual 236, 3) := by decide +kernel
theorem dX4_isFilm_113 : decode cX4_isFilm 113 = .ok (.ifCond .eq 39, 3) := by decide +kernel
theorem dX4_isFilm_116 : decode cX4_isFilm 116 = .ok (.aload_n 0, 1) := by decide +kernel
theorem dX4_isFilm_117 : decode cX4_isFilm 117 = .ok (.getfield 37, 3) := by decide +kernel
theorem dX4_isFilm_120 : decode cX4_isFilm 120 = .ok (.getfield 229, 3) := by decide +kernel
theorem dX4_isFilm_123 : decode cX4_isFilm 123 = .ok (.iload_n 2, 1) := by decide +kernel
theorem dX4_isFilm_124 : decode cX4_isFilm 124 = .ok (.aaload, 1) := by decide +kernel
theorem dX4_isFilm_125 : decode cX4_isFilm 125 = .ok (.iload 6, 2) := by decide +kernel
theorem dX4_isFilm_127 : decode cX4_isFilm 127 = .ok (.laload, 1) := by decide +kernel
theorem dX4_isFilm_128 : decode cX4_isFilm 128 = .ok (.ldc2_w 243, 3) := by decide +kernel
theorem dX4_isFilm_131 : decode cX4_isFilm 131 = .ok (.land, 1) := by decide +kernel
theorem dX4_isFilm_132 : decode cX4_isFilm 132 = .ok (.aload_n 0, 1) := by decide +kernel
theorem dX4_isFilm_133 : decode cX4_isFilm 133 = .ok (.getfield 10, 3) := by decide +kernel
theorem dX4_isFilm_136 : decode cX4_isFilm 136 = .ok (.getfield 136, 3) := by decide +kernel
theorem dX4_isFilm_139 : decode cX4_isFilm 139 = .ok (.iload 7, 2) := by decide +kernel
theorem dX4_isFilm_141 : decode cX4_isFilm 141 = .ok (.iaload, 1) := by decide +kernel
theorem dX4_isFilm_142 : decode cX4_isFilm 142 = .ok (.i2l, 1) := by decide +kernel
theorem dX4_isFilm_143 : decode cX4_isFilm 143 = .ok (.lcmp, 1) := by decide +kernel
theorem dX4_isFilm_144 : decode cX4_isFilm 144 = .ok (.ifCond .eq 5, 3) := by decide +kernel
theorem dX4_isFilm_147 : decode cX4_isFilm 147 = .ok (.iconst 0, 1) := by decide +kernel
theorem dX4_isFilm_148 : decode cX4_isFilm 148 = .ok (.ireturn, 1) := by decide +kernel
theorem dX4_isFilm_149 : decode cX4_isFilm 149 = .ok (.iinc 6 1, 3) := by decide +kernel
theorem dX4_isFilm_152 : decode cX4_isFilm 152 = .ok (.iinc 7 1, 3) := by decide +kernel
theorem dX4_isFilm_155 : decode cX4_isFilm 155 = .ok (.goto (-72), 3) := by decide +kernel
theorem dX4_isFilm_158 : decode cX4_isFilm 158 = .ok (.iconst 1, 1) := by decide +kernel
theorem dX4_isFilm_159 : decode cX4_isFilm 159 = .ok (.ireturn, 1) := by decide +kernel
set_option maxRecDepth 20000 in
theorem ggX4_keep_X3_become : GoodIn wsX4_keep wsX3_become := goodIn_r _ [11, 12, 13, 14, 15, 16, 17, 18, 19, 20, 21, 22, 23, 24, 34, 35, 36, 37, 38, 39, 40, 41, 42] rfl (by decide +kernel)
set_option maxRecDepth 20000 in
theorem gX4_keep_X3_become : GoodIn wsX4_keep (wsV RX4 75 RX3 yX3_become wsX3_become) := goodIn_app (goodIn_r _ [7, 8, 9, 10] rfl (by decide +kernel)) ggX4_keep_X3_become
theorem dX4_keep_0 : decode cX4_keep 0 = .ok (.iload_n 1, 1) := by decide +kernel
theorem dX4_keep_1 : decode cX4_keep 1 = .ok (.ifCond .lt 8, 3) := by decide +kernel
theorem dX4_keep_4 : decode cX4_keep 4 = .ok (.iload_n 1, 1) := by decide +kernel
theorem dX4_keep_5 : decode cX4_keep 5 = .ok (.iconst 2, 1) := by decide +kernel
theorem dX4_keep_6 : decode cX4_keep 6 = .ok (.if_icmp .lt 6, 3) := by decide +kernel
theorem dX4_keep_9 : decode cX4_keep 9 = .ok (.ldc 110, 2) := by decide +kernel
theorem dX4_keep_11 : decode cX4_keep 11 = .ok (.ireturn, 1) := by decide +kernel
theorem dX4_keep_12 : decode cX4_keep 12 = .ok (.aload_n 0, 1) := by decide +kernel
theorem dX4_keep_13 : decode cX4_keep 13 = .ok (.getfield 48, 3) := by decide +kernel
theorem dX4_keep_16 : decode cX4_keep 16 = .ok (.ifCond .eq 6, 3) := by decide +kernel
theorem dX4_keep_19 : decode cX4_keep 19 = .ok (.ldc 148, 2) := by decide +kernel
theorem dX4_keep_21 : decode cX4_keep 21 = .ok (.ireturn, 1) := by decide +kernel
theorem dX4_keep_22 : decode cX4_keep 22 = .ok (.aload_n 0, 1) := by decide +kernel
theorem dX4_keep_23 : decode cX4_keep 23 = .ok (.getfield 19, 3) := by decide +kernel
theorem dX4_keep_26 : decode cX4_keep 26 = .ok (.iload_n 1, 1) := by decide +kernel
theorem dX4_keep_27 : decode cX4_keep 27 = .ok (.aaload, 1) := by decide +kernel
theorem dX4_keep_28 : decode cX4_keep 28 = .ok (.aload_n 0, 1) := by decide +kernel
theorem dX4_keep_29 : decode cX4_keep 29 = .ok (.getfield 10, 3) := by decide +kernel
theorem dX4_keep_32 : decode cX4_keep 32 = .ok (.invokevirtual 75, 3) := by decide +kernel
theorem dX4_keep_35 : decode cX4_keep 35 = .ok (.aload_n 0, 1) := by decide +kernel
theorem dX4_keep_36 : decode cX4_keep 36 = .ok (.getfield 23, 3) := by decide +kernel
theorem dX4_keep_39 : decode cX4_keep 39 = .ok (.iload_n 1, 1) := by decide +kernel
theorem dX4_keep_40 : decode cX4_keep 40 = .ok (.iconst 1, 1) := by decide +kernel
theorem dX4_keep_41 : decode cX4_keep 41 = .ok (.bastore, 1) := by decide +kernel
theorem dX4_keep_42 : decode cX4_keep 42 = .ok (.aload_n 0, 1) := by decide +kernel
theorem dX4_keep_43 : decode cX4_keep 43 = .ok (.getfield 10, 3) := by decide +kernel
theorem dX4_keep_46 : decode cX4_keep 46 = .ok (.getfield 82, 3) := by decide +kernel
theorem dX4_keep_49 : decode cX4_keep 49 = .ok (.ireturn, 1) := by decide +kernel
set_option maxRecDepth 20000 in
theorem ggX4_goBack_X3_become : GoodIn wsX4_goBack wsX3_become := goodIn_r _ [11, 12, 13, 14, 15, 16, 17, 18, 19, 20, 21, 22, 23, 24, 34, 35, 36, 37, 38, 39, 40, 41, 42] rfl (by decide +kernel)
set_option maxRecDepth 20000 in
theorem gX4_goBack_X3_become : GoodIn wsX4_goBack (wsV RX4 75 RX3 yX3_become wsX3_become) := goodIn_app (goodIn_r _ [7, 8, 9, 10] rfl (by decide +kernel)) ggX4_goBack_X3_become
theorem dX4_goBack_0 : decode cX4_goBack 0 = .ok (.iload_n 1, 1) := by decide +kernel
theorem dX4_goBack_1 : decode cX4_goBack 1 = .ok (.ifCond .lt 8, 3) := by decide +kernel
theorem dX4_goBack_4 : decode cX4_goBack 4 = .ok (.iload_n 1, 1) := by decide +kernel
theorem dX4_goBack_5 : decode cX4_goBack 5 = .ok (.iconst 2, 1) := by decide +kernel
theorem dX4_goBack_6 : decode cX4_goBack 6 = .ok (.if_icmp .lt 6, 3) := by decide +kernel
theorem dX4_goBack_9 : decode cX4_goBack 9 = .ok (.ldc 110, 2) := by decide +kernel
theorem dX4_goBack_11 : decode cX4_goBack 11 = .ok (.ireturn, 1) := by decide +kernel
theorem dX4_goBack_12 : decode cX4_goBack 12 = .ok (.aload_n 0, 1) := by decide +kernel
theorem dX4_goBack_13 : decode cX4_goBack 13 = .ok (.getfield 23, 3) := by decide +kernel
theorem dX4_goBack_16 : decode cX4_goBack 16 = .ok (.iload_n 1, 1) := by decide +kernel
theorem dX4_goBack_17 : decode cX4_goBack 17 = .ok (.baload, 1) := by decide +kernel
theorem dX4_goBack_18 : decode cX4_goBack 18 = .ok (.ifCond .ne 6, 3) := by decide +kernel
theorem dX4_goBack_21 : decode cX4_goBack 21 = .ok (.ldc 148, 2) := by decide +kernel
theorem dX4_goBack_23 : decode cX4_goBack 23 = .ok (.ireturn, 1) := by decide +kernel
theorem dX4_goBack_24 : decode cX4_goBack 24 = .ok (.aload_n 0, 1) := by decide +kernel
theorem dX4_goBack_25 : decode cX4_goBack 25 = .ok (.getfield 10, 3) := by decide +kernel
theorem dX4_goBack_28 : decode cX4_goBack 28 = .ok (.aload_n 0, 1) := by decide +kernel
theorem dX4_goBack_29 : decode cX4_goBack 29 = .ok (.getfield 19, 3) := by decide +kernel
theorem dX4_goBack_32 : decode cX4_goBack 32 = .ok (.iload_n 1, 1) := by decide +kernel
theorem dX4_goBack_33 : decode cX4_goBack 33 = .ok (.aaload, 1) := by decide +kernel
theorem dX4_goBack_34 : decode cX4_goBack 34 = .ok (.invokevirtual 75, 3) := by decide +kernel
theorem dX4_goBack_37 : decode cX4_goBack 37 = .ok (.aload_n 0, 1) := by decide +kernel
theorem dX4_goBack_38 : decode cX4_goBack 38 = .ok (.iconst 0, 1) := by decide +kernel
theorem dX4_goBack_39 : decode cX4_goBack 39 = .ok (.putfield 48, 3) := by decide +kernel
theorem dX4_goBack_42 : decode cX4_goBack 42 = .ok (.aload_n 0, 1) := by decide +kernel
theorem dX4_goBack_43 : decode cX4_goBack 43 = .ok (.getfield 10, 3) := by decide +kernel
theorem dX4_goBack_46 : decode cX4_goBack 46 = .ok (.getfield 82, 3) := by decide +kernel
theorem dX4_goBack_49 : decode cX4_goBack 49 = .ok (.ireturn, 1) := by decide +kernel
theorem dX4_forgetImages_0 : decode cX4_forgetImages 0 = .ok (.iconst 0, 1) := by decide +kernel
theorem dX4_forgetImages_1 : decode cX4_forgetImages 1 = .ok (.istore_n 1, 1) := by decide +kernel
theorem dX4_forgetImages_2 : decode cX4_forgetImages 2 = .ok (.iload_n 1, 1) := by decide +kernel
theorem dX4_forgetImages_3 : decode cX4_forgetImages 3 = .ok (.iconst 2, 1) := by decide +kernel
theorem dX4_forgetImages_4 : decode cX4_forgetImages 4 = .ok (.if_icmp .ge 16, 3) := by decide +kernel
theorem dX4_forgetImages_7 : decode cX4_forgetImages 7 = .ok (.aload_n 0, 1) := by decide +kernel
theorem dX4_forgetImages_8 : decode cX4_forgetImages 8 = .ok (.getfield 23, 3) := by decide +kernel
theorem dX4_forgetImages_11 : decode cX4_forgetImages 11 = .ok (.iload_n 1, 1) := by decide +kernel
theorem dX4_forgetImages_12 : decode cX4_forgetImages 12 = .ok (.iconst 0, 1) := by decide +kernel
theorem dX4_forgetImages_13 : decode cX4_forgetImages 13 = .ok (.bastore, 1) := by decide +kernel
theorem dX4_forgetImages_14 : decode cX4_forgetImages 14 = .ok (.iinc 1 1, 3) := by decide +kernel
theorem dX4_forgetImages_17 : decode cX4_forgetImages 17 = .ok (.goto (-15), 3) := by decide +kernel
theorem dX4_forgetImages_20 : decode cX4_forgetImages 20 = .ok (.return_, 1) := by decide +kernel
set_option maxRecDepth 20000 in
theorem ggX4_openChanges_X3_changesOf : GoodIn wsX4_openChanges wsX3_changesOf := goodIn_r _ [6, 7, 17, 18, 19, 20, 21, 22, 23, 24, 25] rfl (by decide +kernel)
set_option maxRecDepth 20000 in
theorem gX4_openChanges_X3_changesOf : GoodIn wsX4_openChanges (wsV RX4 149 RX3 yX3_changesOf wsX3_changesOf) := goodIn_app (goodIn_r _ [2, 3, 4, 5] rfl (by decide +kernel)) ggX4_openChanges_X3_changesOf
theorem dX4_openChanges_0 : decode cX4_openChanges 0 = .ok (.aload_n 0, 1) := by decide +kernel
theorem dX4_openChanges_1 : decode cX4_openChanges 1 = .ok (.getfield 10, 3) := by decide +kernel
theorem dX4_openChanges_4 : decode cX4_openChanges 4 = .ok (.aload_n 0, 1) := by decide +kernel
theorem dX4_openChanges_5 : decode cX4_openChanges 5 = .ok (.getfield 10, 3) := by decide +kernel
theorem dX4_openChanges_8 : decode cX4_openChanges 8 = .ok (.getfield 82, 3) := by decide +kernel
theorem dX4_openChanges_11 : decode cX4_openChanges 11 = .ok (.invokevirtual 149, 3) := by decide +kernel
theorem dX4_openChanges_14 : decode cX4_openChanges 14 = .ok (.ireturn, 1) := by decide +kernel
set_option maxRecDepth 20000 in
theorem ggX4_openLines_X4_openChanges : GoodIn wsX4_openLines wsX4_openChanges := goodIn_r _ [6, 1, 7, 8, 9, 10, 11, 12, 28, 29, 30, 31, 32, 33, 34, 35, 36, 37, 38, 39, 40, 41, 42, 43, 44, 45] rfl (by decide +kernel)
set_option maxRecDepth 20000 in
theorem gX4_openLines_X4_openChanges : GoodIn wsX4_openLines (wsV RX4 160 RX4 yX4_openChanges wsX4_openChanges) := goodIn_app (goodIn_r _ [2, 3, 4, 5] rfl (by decide +kernel)) ggX4_openLines_X4_openChanges
set_option maxRecDepth 20000 in
theorem ggX4_openLines_X3_countStanding : GoodIn wsX4_openLines wsX3_countStanding := goodIn_r _ [16, 17, 18, 19, 10, 20, 21, 22, 23, 24, 25, 26, 27, 37, 38, 39, 40, 41, 42, 43, 44, 45] rfl (by decide +kernel)
set_option maxRecDepth 20000 in
theorem gX4_openLines_X3_countStanding : GoodIn wsX4_openLines (wsV RX4 124 RX3 yX3_countStanding wsX3_countStanding) := goodIn_app (goodIn_r _ [13, 14, 15, 10] rfl (by decide +kernel)) ggX4_openLines_X3_countStanding
theorem dX4_openLines_0 : decode cX4_openLines 0 = .ok (.aload_n 0, 1) := by decide +kernel
theorem dX4_openLines_1 : decode cX4_openLines 1 = .ok (.getfield 10, 3) := by decide +kernel
theorem dX4_openLines_4 : decode cX4_openLines 4 = .ok (.aload_n 0, 1) := by decide +kernel
theorem dX4_openLines_5 : decode cX4_openLines 5 = .ok (.invokevirtual 160, 3) := by decide +kernel
theorem dX4_openLines_8 : decode cX4_openLines 8 = .ok (.invokevirtual 124, 3) := by decide +kernel
theorem dX4_openLines_11 : decode cX4_openLines 11 = .ok (.ireturn, 1) := by decide +kernel
set_option maxRecDepth 20000 in
theorem ggX4_areTwoVersions_X3_hasVersion : GoodIn wsX4_areTwoVersions wsX3_hasVersion := goodIn_r _ [6, 7, 17, 18, 19, 20, 21, 22, 23, 24, 25] rfl (by decide +kernel)
set_option maxRecDepth 20000 in
theorem gX4_areTwoVersions_X3_hasVersion : GoodIn wsX4_areTwoVersions (wsV RX4 107 RX3 yX3_hasVersion wsX3_hasVersion) := goodIn_app (goodIn_r _ [2, 3, 4, 5] rfl (by decide +kernel)) ggX4_areTwoVersions_X3_hasVersion
theorem dX4_areTwoVersions_0 : decode cX4_areTwoVersions 0 = .ok (.iload_n 1, 1) := by decide +kernel
theorem dX4_areTwoVersions_1 : decode cX4_areTwoVersions 1 = .ok (.iload_n 2, 1) := by decide +kernel
theorem dX4_areTwoVersions_2 : decode cX4_areTwoVersions 2 = .ok (.if_icmp .eq 29, 3) := by decide +kernel
theorem dX4_areTwoVersions_5 : decode cX4_areTwoVersions 5 = .ok (.aload_n 0, 1) := by decide +kernel
theorem dX4_areTwoVersions_6 : decode cX4_areTwoVersions 6 = .ok (.getfield 10, 3) := by decide +kernel
theorem dX4_areTwoVersions_9 : decode cX4_areTwoVersions 9 = .ok (.iload_n 1, 1) := by decide +kernel
theorem dX4_areTwoVersions_10 : decode cX4_areTwoVersions 10 = .ok (.invokevirtual 107, 3) := by decide +kernel
theorem dX4_areTwoVersions_13 : decode cX4_areTwoVersions 13 = .ok (.ifCond .eq 18, 3) := by decide +kernel
theorem dX4_areTwoVersions_16 : decode cX4_areTwoVersions 16 = .ok (.aload_n 0, 1) := by decide +kernel
theorem dX4_areTwoVersions_17 : decode cX4_areTwoVersions 17 = .ok (.getfield 10, 3) := by decide +kernel
theorem dX4_areTwoVersions_20 : decode cX4_areTwoVersions 20 = .ok (.iload_n 2, 1) := by decide +kernel
theorem dX4_areTwoVersions_21 : decode cX4_areTwoVersions 21 = .ok (.invokevirtual 107, 3) := by decide +kernel
theorem dX4_areTwoVersions_24 : decode cX4_areTwoVersions 24 = .ok (.ifCond .eq 7, 3) := by decide +kernel
theorem dX4_areTwoVersions_27 : decode cX4_areTwoVersions 27 = .ok (.iconst 1, 1) := by decide +kernel
theorem dX4_areTwoVersions_28 : decode cX4_areTwoVersions 28 = .ok (.goto 4, 3) := by decide +kernel
theorem dX4_areTwoVersions_31 : decode cX4_areTwoVersions 31 = .ok (.iconst 0, 1) := by decide +kernel
theorem dX4_areTwoVersions_32 : decode cX4_areTwoVersions 32 = .ok (.ireturn, 1) := by decide +kernel
theorem dX4_isSign_0 : decode cX4_isSign 0 = .ok (.iload_n 0, 1) := by decide +kernel
theorem dX4_isSign_1 : decode cX4_isSign 1 = .ok (.bipush 65, 2) := by decide +kernel
theorem dX4_isSign_3 : decode cX4_isSign 3 = .ok (.if_icmp .lt 13, 3) := by decide +kernel
theorem dX4_isSign_6 : decode cX4_isSign 6 = .ok (.iload_n 0, 1) := by decide +kernel
theorem dX4_isSign_7 : decode cX4_isSign 7 = .ok (.bipush 90, 2) := by decide +kernel
theorem dX4_isSign_9 : decode cX4_isSign 9 = .ok (.if_icmp .gt 7, 3) := by decide +kernel
theorem dX4_isSign_12 : decode cX4_isSign 12 = .ok (.iconst 1, 1) := by decide +kernel
theorem dX4_isSign_13 : decode cX4_isSign 13 = .ok (.goto 4, 3) := by decide +kernel
theorem dX4_isSign_16 : decode cX4_isSign 16 = .ok (.iconst 0, 1) := by decide +kernel
theorem dX4_isSign_17 : decode cX4_isSign 17 = .ok (.ireturn, 1) := by decide +kernel
set_option maxRecDepth 20000 in
theorem ggX4_driftOneVersion_X0_below : GoodIn wsX4_driftOneVersion wsX0_below := goodIn_r _ [7, 8, 9, 10, 116] rfl (by decide +kernel)
set_option maxRecDepth 20000 in
theorem gX4_driftOneVersion_X0_below : GoodIn wsX4_driftOneVersion (wsV RX4 245 RX0 yX0_below wsX0_below) := goodIn_app (goodIn_r _ [3, 4, 5, 6] rfl (by decide +kernel)) ggX4_driftOneVersion_X0_below
set_option maxRecDepth 20000 in
theorem ggX4_driftOneVersion_X3_beginVersion : GoodIn wsX4_driftOneVersion wsX3_beginVersion := goodIn_r _ [15, 16, 17, 18, 19, 20, 21, 22, 14, 23, 24, 25, 26, 27, 28, 29, 30, 31, 107, 108, 109, 110, 111, 112, 113, 114, 115] rfl (by decide +kernel)
set_option maxRecDepth 20000 in
theorem gX4_driftOneVersion_X3_beginVersion : GoodIn wsX4_driftOneVersion (wsV RX4 156 RX3 yX3_beginVersion wsX3_beginVersion) := goodIn_app (goodIn_r _ [11, 12, 13, 14] rfl (by decide +kernel)) ggX4_driftOneVersion_X3_beginVersion
set_option maxRecDepth 20000 in
theorem ggX4_driftOneVersion_X4_driftOneLine : GoodIn wsX4_driftOneVersion wsX4_driftOneLine := goodIn_r _ [36, 2, 1, 3, 4, 5, 6, 7, 8, 9, 10, 37, 38, 39, 35, 40, 41, 42, 43, 44, 45, 26, 27, 14, 28, 24, 46, 47, 48, 49, 50, 51, 52, 53, 54, 55, 56, 57, 58, 59, 60, 61, 62, 63, 64, 16, 65, 25, 66, 67, 68, 69, 70, 71, 72, 73, 74, 75, 76, 77, 78, 79, 80, 81, 82, 83, 84, 85, 29, 30, 31, 86, 87, 88, 89, 90, 91, 92, 93, 98, 99, 100, 101, 102, 103, 104, 105, 106, 107, 108, 109, 110, 111, 112, 113, 114, 115, 116] rfl (by decide +kernel)
set_option maxRecDepth 20000 in
theorem gX4_driftOneVersion_X4_driftOneLine : GoodIn wsX4_driftOneVersion (wsV RX4 248 RX4 yX4_driftOneLine wsX4_driftOneLine) := goodIn_app (goodIn_r _ [32, 33, 34, 35] rfl (by decide +kernel)) ggX4_driftOneVersion_X4_driftOneLine
set_option maxRecDepth 20000 in
theorem ggX4_driftOneVersion_X3_finishVersion : GoodIn wsX4_driftOneVersion wsX3_finishVersion := goodIn_r _ [97, 16, 107, 108, 109, 110, 111, 112, 113, 114, 115] rfl (by decide +kernel)
set_option maxRecDepth 20000 in
theorem gX4_driftOneVersion_X3_finishVersion : GoodIn wsX4_driftOneVersion (wsV RX4 183 RX3 yX3_finishVersion wsX3_finishVersion) := goodIn_app (goodIn_r _ [94, 95, 96, 14] rfl (by decide +kernel)) ggX4_driftOneVersion_X3_finishVersion
theorem dX4_driftOneVersion_0 : decode cX4_driftOneVersion 0 = .ok (.aload_n 0, 1) := by decide +kernel
theorem dX4_driftOneVersion_1 : decode cX4_driftOneVersion 1 = .ok (.getfield 10, 3) := by decide +kernel
theorem dX4_driftOneVersion_4 : decode cX4_driftOneVersion 4 = .ok (.getfield 82, 3) := by decide +kernel
theorem dX4_driftOneVersion_7 : decode cX4_driftOneVersion 7 = .ok (.bipush 24, 2) := by decide +kernel
theorem dX4_driftOneVersion_9 : decode cX4_driftOneVersion 9 = .ok (.if_icmp .lt 5, 3) := by decide +kernel
theorem dX4_driftOneVersion_12 : decode cX4_driftOneVersion 12 = .ok (.iconst 0, 1) := by decide +kernel
theorem dX4_driftOneVersion_13 : decode cX4_driftOneVersion 13 = .ok (.ireturn, 1) := by decide +kernel
theorem dX4_driftOneVersion_14 : decode cX4_driftOneVersion 14 = .ok (.aload_n 0, 1) := by decide +kernel
theorem dX4_driftOneVersion_15 : decode cX4_driftOneVersion 15 = .ok (.getfield 10, 3) := by decide +kernel
theorem dX4_driftOneVersion_18 : decode cX4_driftOneVersion 18 = .ok (.aload_n 0, 1) := by decide +kernel
theorem dX4_driftOneVersion_19 : decode cX4_driftOneVersion 19 = .ok (.getfield 44, 3) := by decide +kernel
theorem dX4_driftOneVersion_22 : decode cX4_driftOneVersion 22 = .ok (.aload_n 0, 1) := by decide +kernel
theorem dX4_driftOneVersion_23 : decode cX4_driftOneVersion 23 = .ok (.getfield 10, 3) := by decide +kernel
theorem dX4_driftOneVersion_26 : decode cX4_driftOneVersion 26 = .ok (.getfield 82, 3) := by decide +kernel
theorem dX4_driftOneVersion_29 : decode cX4_driftOneVersion 29 = .ok (.invokevirtual 245, 3) := by decide +kernel
theorem dX4_driftOneVersion_32 : decode cX4_driftOneVersion 32 = .ok (.iconst 0, 1) := by decide +kernel
theorem dX4_driftOneVersion_33 : decode cX4_driftOneVersion 33 = .ok (.iconst 0, 1) := by decide +kernel
theorem dX4_driftOneVersion_34 : decode cX4_driftOneVersion 34 = .ok (.invokevirtual 156, 3) := by decide +kernel
theorem dX4_driftOneVersion_37 : decode cX4_driftOneVersion 37 = .ok (.iconst 1, 1) := by decide +kernel
theorem dX4_driftOneVersion_38 : decode cX4_driftOneVersion 38 = .ok (.istore_n 1, 1) := by decide +kernel
theorem dX4_driftOneVersion_39 : decode cX4_driftOneVersion 39 = .ok (.iconst 0, 1) := by decide +kernel
theorem dX4_driftOneVersion_40 : decode cX4_driftOneVersion 40 = .ok (.istore_n 2, 1) := by decide +kernel
theorem dX4_driftOneVersion_41 : decode cX4_driftOneVersion 41 = .ok (.iload_n 2, 1) := by decide +kernel
theorem dX4_driftOneVersion_42 : decode cX4_driftOneVersion 42 = .ok (.iconst 3, 1) := by decide +kernel
theorem dX4_driftOneVersion_43 : decode cX4_driftOneVersion 43 = .ok (.if_icmp .ge 18, 3) := by decide +kernel
theorem dX4_driftOneVersion_46 : decode cX4_driftOneVersion 46 = .ok (.iload_n 1, 1) := by decide +kernel
theorem dX4_driftOneVersion_47 : decode cX4_driftOneVersion 47 = .ok (.ifCond .eq 14, 3) := by decide +kernel
theorem dX4_driftOneVersion_50 : decode cX4_driftOneVersion 50 = .ok (.aload_n 0, 1) := by decide +kernel
theorem dX4_driftOneVersion_51 : decode cX4_driftOneVersion 51 = .ok (.invokevirtual 248, 3) := by decide +kernel
theorem dX4_driftOneVersion_54 : decode cX4_driftOneVersion 54 = .ok (.istore_n 1, 1) := by decide +kernel
theorem dX4_driftOneVersion_55 : decode cX4_driftOneVersion 55 = .ok (.iinc 2 1, 3) := by decide +kernel
theorem dX4_driftOneVersion_58 : decode cX4_driftOneVersion 58 = .ok (.goto (-17), 3) := by decide +kernel
theorem dX4_driftOneVersion_61 : decode cX4_driftOneVersion 61 = .ok (.aload_n 0, 1) := by decide +kernel
theorem dX4_driftOneVersion_62 : decode cX4_driftOneVersion 62 = .ok (.getfield 10, 3) := by decide +kernel
theorem dX4_driftOneVersion_65 : decode cX4_driftOneVersion 65 = .ok (.invokevirtual 183, 3) := by decide +kernel
theorem dX4_driftOneVersion_68 : decode cX4_driftOneVersion 68 = .ok (.iload_n 1, 1) := by decide +kernel
theorem dX4_driftOneVersion_69 : decode cX4_driftOneVersion 69 = .ok (.ireturn, 1) := by decide +kernel
set_option maxRecDepth 20000 in
theorem ggX4_driftOneLine_X0_below : GoodIn wsX4_driftOneLine wsX0_below := goodIn_r _ [7, 8, 9, 10, 97] rfl (by decide +kernel)
set_option maxRecDepth 20000 in
theorem gX4_driftOneLine_X0_below : GoodIn wsX4_driftOneLine (wsV RX4 245 RX0 yX0_below wsX0_below) := goodIn_app (goodIn_r _ [3, 4, 5, 6] rfl (by decide +kernel)) ggX4_driftOneLine_X0_below
set_option maxRecDepth 20000 in
theorem ggX4_driftOneLine_X4_openLines : GoodIn wsX4_driftOneLine wsX4_openLines := goodIn_r _ [15, 2, 16, 17, 18, 14, 19, 20, 21, 22, 23, 24, 25, 26, 27, 28, 29, 30, 31, 32, 33, 34, 35, 36, 37, 38, 39, 40, 79, 80, 81, 82, 83, 84, 85, 86, 87, 88, 89, 90, 91, 92, 93, 94, 95, 96] rfl (by decide +kernel)
set_option maxRecDepth 20000 in
theorem gX4_driftOneLine_X4_openLines : GoodIn wsX4_driftOneLine (wsV RX4 92 RX4 yX4_openLines wsX4_openLines) := goodIn_app (goodIn_r _ [11, 12, 13, 14] rfl (by decide +kernel)) ggX4_driftOneLine_X4_openLines
set_option maxRecDepth 20000 in
theorem ggX4_driftOneLine_X3_takeByNext : GoodIn wsX4_driftOneLine wsX3_takeByNext := goodIn_r _ [44, 45, 46, 39, 40, 47, 21, 22, 23, 24, 25, 48, 49, 50, 51, 34, 35, 36, 37, 38, 52, 53, 54, 55, 56, 57, 58, 59, 60, 61, 62, 63, 64, 65, 66, 67, 68, 69, 70, 88, 89, 90, 91, 92, 93, 94, 95, 96] rfl (by decide +kernel)
set_option maxRecDepth 20000 in
theorem gX4_driftOneLine_X3_takeByNext : GoodIn wsX4_driftOneLine (wsV RX4 180 RX3 yX3_takeByNext wsX3_takeByNext) := goodIn_app (goodIn_r _ [41, 42, 43, 23] rfl (by decide +kernel)) ggX4_driftOneLine_X3_takeByNext
set_option maxRecDepth 20000 in
theorem ggX4_driftOneLine_X3_putByNext : GoodIn wsX4_driftOneLine wsX3_putByNext := goodIn_r _ [74, 45, 47, 21, 22, 23, 24, 25, 48, 49, 50, 51, 34, 35, 36, 37, 38, 39, 40, 75, 76, 77, 78, 46, 60, 61, 62, 63, 64, 65, 66, 67, 88, 89, 90, 91, 92, 93, 94, 95, 96] rfl (by decide +kernel)
set_option maxRecDepth 20000 in
theorem gX4_driftOneLine_X3_putByNext : GoodIn wsX4_driftOneLine (wsV RX4 177 RX3 yX3_putByNext wsX3_putByNext) := goodIn_app (goodIn_r _ [71, 72, 73, 23] rfl (by decide +kernel)) ggX4_driftOneLine_X3_putByNext
theorem dX4_driftOneLine_0 : decode cX4_driftOneLine 0 = .ok (.aload_n 0, 1) := by decide +kernel
theorem dX4_driftOneLine_1 : decode cX4_driftOneLine 1 = .ok (.getfield 44, 3) := by decide +kernel
theorem dX4_driftOneLine_4 : decode cX4_driftOneLine 4 = .ok (.iconst 3, 1) := by decide +kernel
theorem dX4_driftOneLine_5 : decode cX4_driftOneLine 5 = .ok (.invokevirtual 245, 3) := by decide +kernel
theorem dX4_driftOneLine_8 : decode cX4_driftOneLine 8 = .ok (.iconst 2, 1) := by decide +kernel
theorem dX4_driftOneLine_9 : decode cX4_driftOneLine 9 = .ok (.if_icmp .ne 7, 3) := by decide +kernel
theorem dX4_driftOneLine_12 : decode cX4_driftOneLine 12 = .ok (.iconst 1, 1) := by decide +kernel
theorem dX4_driftOneLine_13 : decode cX4_driftOneLine 13 = .ok (.goto 4, 3) := by decide +kernel
theorem dX4_driftOneLine_16 : decode cX4_driftOneLine 16 = .ok (.iconst 0, 1) := by decide +kernel
theorem dX4_driftOneLine_17 : decode cX4_driftOneLine 17 = .ok (.istore_n 1, 1) := by decide +kernel
theorem dX4_driftOneLine_18 : decode cX4_driftOneLine 18 = .ok (.aload_n 0, 1) := by decide +kernel
theorem dX4_driftOneLine_19 : decode cX4_driftOneLine 19 = .ok (.invokevirtual 92, 3) := by decide +kernel
theorem dX4_driftOneLine_22 : decode cX4_driftOneLine 22 = .ok (.istore_n 2, 1) := by decide +kernel
theorem dX4_driftOneLine_23 : decode cX4_driftOneLine 23 = .ok (.iload_n 1, 1) := by decide +kernel
theorem dX4_driftOneLine_24 : decode cX4_driftOneLine 24 = .ok (.ifCond .eq 25, 3) := by decide +kernel
theorem dX4_driftOneLine_27 : decode cX4_driftOneLine 27 = .ok (.iload_n 2, 1) := by decide +kernel
theorem dX4_driftOneLine_28 : decode cX4_driftOneLine 28 = .ok (.ifCond .le 19, 3) := by decide +kernel
theorem dX4_driftOneLine_31 : decode cX4_driftOneLine 31 = .ok (.aload_n 0, 1) := by decide +kernel
theorem dX4_driftOneLine_32 : decode cX4_driftOneLine 32 = .ok (.getfield 10, 3) := by decide +kernel
theorem dX4_driftOneLine_35 : decode cX4_driftOneLine 35 = .ok (.aload_n 0, 1) := by decide +kernel
theorem dX4_driftOneLine_36 : decode cX4_driftOneLine 36 = .ok (.getfield 44, 3) := by decide +kernel
theorem dX4_driftOneLine_39 : decode cX4_driftOneLine 39 = .ok (.iload_n 2, 1) := by decide +kernel
theorem dX4_driftOneLine_40 : decode cX4_driftOneLine 40 = .ok (.invokevirtual 245, 3) := by decide +kernel
theorem dX4_driftOneLine_43 : decode cX4_driftOneLine 43 = .ok (.invokevirtual 180, 3) := by decide +kernel
theorem dX4_driftOneLine_46 : decode cX4_driftOneLine 46 = .ok (.pop, 1) := by decide +kernel
theorem dX4_driftOneLine_47 : decode cX4_driftOneLine 47 = .ok (.iconst 1, 1) := by decide +kernel
theorem dX4_driftOneLine_48 : decode cX4_driftOneLine 48 = .ok (.ireturn, 1) := by decide +kernel
theorem dX4_driftOneLine_49 : decode cX4_driftOneLine 49 = .ok (.aload_n 0, 1) := by decide +kernel
theorem dX4_driftOneLine_50 : decode cX4_driftOneLine 50 = .ok (.getfield 10, 3) := by decide +kernel
theorem dX4_driftOneLine_53 : decode cX4_driftOneLine 53 = .ok (.getfield 85, 3) := by decide +kernel
theorem dX4_driftOneLine_56 : decode cX4_driftOneLine 56 = .ok (.bipush 120, 2) := by decide +kernel
theorem dX4_driftOneLine_58 : decode cX4_driftOneLine 58 = .ok (.if_icmp .lt 5, 3) := by decide +kernel
theorem dX4_driftOneLine_61 : decode cX4_driftOneLine 61 = .ok (.iconst 0, 1) := by decide +kernel
theorem dX4_driftOneLine_62 : decode cX4_driftOneLine 62 = .ok (.ireturn, 1) := by decide +kernel
theorem dX4_driftOneLine_63 : decode cX4_driftOneLine 63 = .ok (.bipush 65, 2) := by decide +kernel
theorem dX4_driftOneLine_65 : decode cX4_driftOneLine 65 = .ok (.aload_n 0, 1) := by decide +kernel
theorem dX4_driftOneLine_66 : decode cX4_driftOneLine 66 = .ok (.getfield 44, 3) := by decide +kernel
theorem dX4_driftOneLine_69 : decode cX4_driftOneLine 69 = .ok (.bipush 26, 2) := by decide +kernel
theorem dX4_driftOneLine_71 : decode cX4_driftOneLine 71 = .ok (.invokevirtual 245, 3) := by decide +kernel
theorem dX4_driftOneLine_74 : decode cX4_driftOneLine 74 = .ok (.iadd, 1) := by decide +kernel
theorem dX4_driftOneLine_75 : decode cX4_driftOneLine 75 = .ok (.istore_n 3, 1) := by decide +kernel
theorem dX4_driftOneLine_76 : decode cX4_driftOneLine 76 = .ok (.aload_n 0, 1) := by decide +kernel
theorem dX4_driftOneLine_77 : decode cX4_driftOneLine 77 = .ok (.getfield 10, 3) := by decide +kernel
theorem dX4_driftOneLine_80 : decode cX4_driftOneLine 80 = .ok (.aload_n 0, 1) := by decide +kernel
theorem dX4_driftOneLine_81 : decode cX4_driftOneLine 81 = .ok (.getfield 44, 3) := by decide +kernel
theorem dX4_driftOneLine_84 : decode cX4_driftOneLine 84 = .ok (.iload_n 2, 1) := by decide +kernel
theorem dX4_driftOneLine_85 : decode cX4_driftOneLine 85 = .ok (.iconst 1, 1) := by decide +kernel
theorem dX4_driftOneLine_86 : decode cX4_driftOneLine 86 = .ok (.iadd, 1) := by decide +kernel
theorem dX4_driftOneLine_87 : decode cX4_driftOneLine 87 = .ok (.invokevirtual 245, 3) := by decide +kernel
theorem dX4_driftOneLine_90 : decode cX4_driftOneLine 90 = .ok (.iload_n 3, 1) := by decide +kernel
theorem dX4_driftOneLine_91 : decode cX4_driftOneLine 91 = .ok (.invokevirtual 177, 3) := by decide +kernel
theorem dX4_driftOneLine_94 : decode cX4_driftOneLine 94 = .ok (.pop, 1) := by decide +kernel
theorem dX4_driftOneLine_95 : decode cX4_driftOneLine 95 = .ok (.iconst 1, 1) := by decide +kernel
theorem dX4_driftOneLine_96 : decode cX4_driftOneLine 96 = .ok (.ireturn, 1) := by decide +kernel
theorem dJ6_bitCount_0f7a4_0 : decode cJ6_bitCount_0f7a4 0 = .ok (.iload_n 0, 1) := by decide +kernel
theorem dJ6_bitCount_0f7a4_1 : decode cJ6_bitCount_0f7a4 1 = .ok (.iload_n 0, 1) := by decide +kernel
theorem dJ6_bitCount_0f7a4_2 : decode cJ6_bitCount_0f7a4 2 = .ok (.iconst 1, 1) := by decide +kernel
theorem dJ6_bitCount_0f7a4_3 : decode cJ6_bitCount_0f7a4 3 = .ok (.iushr, 1) := by decide +kernel
theorem dJ6_bitCount_0f7a4_4 : decode cJ6_bitCount_0f7a4 4 = .ok (.ldc_w 265, 3) := by decide +kernel
theorem dJ6_bitCount_0f7a4_7 : decode cJ6_bitCount_0f7a4 7 = .ok (.iand, 1) := by decide +kernel
theorem dJ6_bitCount_0f7a4_8 : decode cJ6_bitCount_0f7a4 8 = .ok (.isub, 1) := by decide +kernel
theorem dJ6_bitCount_0f7a4_9 : decode cJ6_bitCount_0f7a4 9 = .ok (.istore_n 0, 1) := by decide +kernel
theorem dJ6_bitCount_0f7a4_10 : decode cJ6_bitCount_0f7a4 10 = .ok (.iload_n 0, 1) := by decide +kernel
theorem dJ6_bitCount_0f7a4_11 : decode cJ6_bitCount_0f7a4 11 = .ok (.ldc_w 266, 3) := by decide +kernel
theorem dJ6_bitCount_0f7a4_14 : decode cJ6_bitCount_0f7a4 14 = .ok (.iand, 1) := by decide +kernel
theorem dJ6_bitCount_0f7a4_15 : decode cJ6_bitCount_0f7a4 15 = .ok (.iload_n 0, 1) := by decide +kernel
theorem dJ6_bitCount_0f7a4_16 : decode cJ6_bitCount_0f7a4 16 = .ok (.iconst 2, 1) := by decide +kernel
theorem dJ6_bitCount_0f7a4_17 : decode cJ6_bitCount_0f7a4 17 = .ok (.iushr, 1) := by decide +kernel
theorem dJ6_bitCount_0f7a4_18 : decode cJ6_bitCount_0f7a4 18 = .ok (.ldc_w 266, 3) := by decide +kernel
theorem dJ6_bitCount_0f7a4_21 : decode cJ6_bitCount_0f7a4 21 = .ok (.iand, 1) := by decide +kernel
theorem dJ6_bitCount_0f7a4_22 : decode cJ6_bitCount_0f7a4 22 = .ok (.iadd, 1) := by decide +kernel
theorem dJ6_bitCount_0f7a4_23 : decode cJ6_bitCount_0f7a4 23 = .ok (.istore_n 0, 1) := by decide +kernel
theorem dJ6_bitCount_0f7a4_24 : decode cJ6_bitCount_0f7a4 24 = .ok (.iload_n 0, 1) := by decide +kernel
theorem dJ6_bitCount_0f7a4_25 : decode cJ6_bitCount_0f7a4 25 = .ok (.iload_n 0, 1) := by decide +kernel
theorem dJ6_bitCount_0f7a4_26 : decode cJ6_bitCount_0f7a4 26 = .ok (.iconst 4, 1) := by decide +kernel
theorem dJ6_bitCount_0f7a4_27 : decode cJ6_bitCount_0f7a4 27 = .ok (.iushr, 1) := by decide +kernel
theorem dJ6_bitCount_0f7a4_28 : decode cJ6_bitCount_0f7a4 28 = .ok (.iadd, 1) := by decide +kernel
theorem dJ6_bitCount_0f7a4_29 : decode cJ6_bitCount_0f7a4 29 = .ok (.ldc_w 267, 3) := by decide +kernel
theorem dJ6_bitCount_0f7a4_32 : decode cJ6_bitCount_0f7a4 32 = .ok (.iand, 1) := by decide +kernel
theorem dJ6_bitCount_0f7a4_33 : decode cJ6_bitCount_0f7a4 33 = .ok (.istore_n 0, 1) := by decide +kernel
theorem dJ6_bitCount_0f7a4_34 : decode cJ6_bitCount_0f7a4 34 = .ok (.iload_n 0, 1) := by decide +kernel
theorem dJ6_bitCount_0f7a4_35 : decode cJ6_bitCount_0f7a4 35 = .ok (.iload_n 0, 1) := by decide +kernel
theorem dJ6_bitCount_0f7a4_36 : decode cJ6_bitCount_0f7a4 36 = .ok (.bipush 8, 2) := by decide +kernel
theorem dJ6_bitCount_0f7a4_38 : decode cJ6_bitCount_0f7a4 38 = .ok (.iushr, 1) := by decide +kernel
theorem dJ6_bitCount_0f7a4_39 : decode cJ6_bitCount_0f7a4 39 = .ok (.iadd, 1) := by decide +kernel
theorem dJ6_bitCount_0f7a4_40 : decode cJ6_bitCount_0f7a4 40 = .ok (.istore_n 0, 1) := by decide +kernel
theorem dJ6_bitCount_0f7a4_41 : decode cJ6_bitCount_0f7a4 41 = .ok (.iload_n 0, 1) := by decide +kernel
theorem dJ6_bitCount_0f7a4_42 : decode cJ6_bitCount_0f7a4 42 = .ok (.iload_n 0, 1) := by decide +kernel
theorem dJ6_bitCount_0f7a4_43 : decode cJ6_bitCount_0f7a4 43 = .ok (.bipush 16, 2) := by decide +kernel
theorem dJ6_bitCount_0f7a4_45 : decode cJ6_bitCount_0f7a4 45 = .ok (.iushr, 1) := by decide +kernel
theorem dJ6_bitCount_0f7a4_46 : decode cJ6_bitCount_0f7a4 46 = .ok (.iadd, 1) := by decide +kernel
theorem dJ6_bitCount_0f7a4_47 : decode cJ6_bitCount_0f7a4 47 = .ok (.istore_n 0, 1) := by decide +kernel
theorem dJ6_bitCount_0f7a4_48 : decode cJ6_bitCount_0f7a4 48 = .ok (.iload_n 0, 1) := by decide +kernel
theorem dJ6_bitCount_0f7a4_49 : decode cJ6_bitCount_0f7a4 49 = .ok (.bipush 63, 2) := by decide +kernel
theorem dJ6_bitCount_0f7a4_51 : decode cJ6_bitCount_0f7a4 51 = .ok (.iand, 1) := by decide +kernel
theorem dJ6_bitCount_0f7a4_52 : decode cJ6_bitCount_0f7a4 52 = .ok (.ireturn, 1) := by decide +kernel
theorem dJ9_max_7cf53_0 : decode cJ9_max_7cf53 0 = .ok (.iload_n 0, 1) := by decide +kernel
theorem dJ9_max_7cf53_1 : decode cJ9_max_7cf53 1 = .ok (.iload_n 1, 1) := by decide +kernel
theorem dJ9_max_7cf53_2 : decode cJ9_max_7cf53 2 = .ok (.if_icmp .lt 7, 3) := by decide +kernel
theorem dJ9_max_7cf53_5 : decode cJ9_max_7cf53 5 = .ok (.iload_n 0, 1) := by decide +kernel
theorem dJ9_max_7cf53_6 : decode cJ9_max_7cf53 6 = .ok (.goto 4, 3) := by decide +kernel
theorem dJ9_max_7cf53_9 : decode cJ9_max_7cf53 9 = .ok (.iload_n 1, 1) := by decide +kernel
theorem dJ9_max_7cf53_10 : decode cJ9_max_7cf53 10 = .ok (.ireturn, 1) := by decide +kernel
