set_option maxRecDepth 20000 in
theorem ggX5_init_X0_init : GoodIn wsX5_init wsX0_init := goodIn_r _ [30, 31, 2, 3, 22, 32, 33, 34, 35, 36, 37, 38, 39, 40, 41, 77, 78, 79, 80, 81, 82, 83, 84, 85, 86] (by decide +kernel) (by decide +kernel)
set_option maxRecDepth 20000 in
theorem gX5_init_X0_init_n9 : GoodIn wsX5_init (wsX0_init) := ggX5_init_X0_init
set_option maxRecDepth 20000 in
theorem ggX5_init_X4_init : GoodIn wsX5_init wsX4_init := goodIn_r _ [43, 44, 2, 3, 45, 46, 47, 48, 49, 5, 6, 50, 51, 52, 53, 54, 55, 56, 57, 58, 59, 60, 61, 62, 63, 29, 30, 31, 22, 32, 33, 34, 35, 36, 37, 38, 39, 40, 41, 111, 112, 113, 114, 115, 98, 99, 100, 101, 102, 103, 77, 78, 79, 80, 81, 82, 83, 84, 85, 86] (by decide +kernel) (by decide +kernel)
set_option maxRecDepth 20000 in
theorem gX5_init_X4_init_n29 : GoodIn wsX5_init (wsX4_init) := ggX5_init_X4_init
set_option maxRecDepth 20000 in
theorem ggX5_init_X2_init : GoodIn wsX5_init wsX2_init := goodIn_r _ [65, 66, 2, 3, 22, 67, 68, 69, 70, 104, 105, 106, 107] (by decide +kernel) (by decide +kernel)
set_option maxRecDepth 20000 in
theorem gX5_init_X2_init_n36 : GoodIn wsX5_init (wsX2_init) := ggX5_init_X2_init
set_option maxRecDepth 20000 in
theorem ggX5_init_X1_init : GoodIn wsX5_init wsX1_init := goodIn_r _ [72, 73, 2, 3, 22, 74, 75, 76, 108, 109, 110] (by decide +kernel) (by decide +kernel)
set_option maxRecDepth 20000 in
theorem gX5_init_X1_init_n61 : GoodIn wsX5_init (wsX1_init) := ggX5_init_X1_init
theorem dX5_init_0 : decode cX5_init 0 = .ok (.aload_n 0, 1) := by decide +kernel
theorem dX5_init_1 : decode cX5_init 1 = .ok (.invokespecial 1, 3) := by decide +kernel
theorem dX5_init_4 : decode cX5_init 4 = .ok (.aload_n 0, 1) := by decide +kernel
theorem dX5_init_5 : decode cX5_init 5 = .ok (.new 7, 3) := by decide +kernel
theorem dX5_init_8 : decode cX5_init 8 = .ok (.dup, 1) := by decide +kernel
theorem dX5_init_9 : decode cX5_init 9 = .ok (.invokespecial 9, 3) := by decide +kernel
theorem dX5_init_12 : decode cX5_init 12 = .ok (.putfield 10, 3) := by decide +kernel
theorem dX5_init_15 : decode cX5_init 15 = .ok (.aload_n 0, 1) := by decide +kernel
theorem dX5_init_16 : decode cX5_init 16 = .ok (.new 7, 3) := by decide +kernel
theorem dX5_init_19 : decode cX5_init 19 = .ok (.dup, 1) := by decide +kernel
theorem dX5_init_20 : decode cX5_init 20 = .ok (.invokespecial 9, 3) := by decide +kernel
theorem dX5_init_23 : decode cX5_init 23 = .ok (.putfield 16, 3) := by decide +kernel
theorem dX5_init_26 : decode cX5_init 26 = .ok (.aload_n 0, 1) := by decide +kernel
theorem dX5_init_27 : decode cX5_init 27 = .ok (.iconst 2, 1) := by decide +kernel
theorem dX5_init_28 : decode cX5_init 28 = .ok (.anewarray 7, 3) := by decide +kernel
theorem dX5_init_31 : decode cX5_init 31 = .ok (.putfield 19, 3) := by decide +kernel
theorem dX5_init_34 : decode cX5_init 34 = .ok (.aload_n 0, 1) := by decide +kernel
theorem dX5_init_35 : decode cX5_init 35 = .ok (.iconst 2, 1) := by decide +kernel
theorem dX5_init_36 : decode cX5_init 36 = .ok (.newarray .boolean, 2) := by decide +kernel
theorem dX5_init_38 : decode cX5_init 38 = .ok (.putfield 23, 3) := by decide +kernel
theorem dX5_init_41 : decode cX5_init 41 = .ok (.aload_n 0, 1) := by decide +kernel
theorem dX5_init_42 : decode cX5_init 42 = .ok (.new 27, 3) := by decide +kernel
theorem dX5_init_45 : decode cX5_init 45 = .ok (.dup, 1) := by decide +kernel
theorem dX5_init_46 : decode cX5_init 46 = .ok (.invokespecial 29, 3) := by decide +kernel
theorem dX5_init_49 : decode cX5_init 49 = .ok (.putfield 30, 3) := by decide +kernel
theorem dX5_init_52 : decode cX5_init 52 = .ok (.aload_n 0, 1) := by decide +kernel
theorem dX5_init_53 : decode cX5_init 53 = .ok (.new 34, 3) := by decide +kernel
theorem dX5_init_56 : decode cX5_init 56 = .ok (.dup, 1) := by decide +kernel
theorem dX5_init_57 : decode cX5_init 57 = .ok (.invokespecial 36, 3) := by decide +kernel
theorem dX5_init_60 : decode cX5_init 60 = .ok (.putfield 37, 3) := by decide +kernel
theorem dX5_init_63 : decode cX5_init 63 = .ok (.aload_n 0, 1) := by decide +kernel
theorem dX5_init_64 : decode cX5_init 64 = .ok (.iconst 4, 1) := by decide +kernel
theorem dX5_init_65 : decode cX5_init 65 = .ok (.anewarray 41, 3) := by decide +kernel
theorem dX5_init_68 : decode cX5_init 68 = .ok (.putfield 43, 3) := by decide +kernel
theorem dX5_init_71 : decode cX5_init 71 = .ok (.aload_n 0, 1) := by decide +kernel
theorem dX5_init_72 : decode cX5_init 72 = .ok (.bipush 8, 2) := by decide +kernel
theorem dX5_init_74 : decode cX5_init 74 = .ok (.newarray .int, 2) := by decide +kernel
theorem dX5_init_76 : decode cX5_init 76 = .ok (.putfield 47, 3) := by decide +kernel
theorem dX5_init_79 : decode cX5_init 79 = .ok (.aload_n 0, 1) := by decide +kernel
theorem dX5_init_80 : decode cX5_init 80 = .ok (.bipush 10, 2) := by decide +kernel
theorem dX5_init_82 : decode cX5_init 82 = .ok (.newarray .int, 2) := by decide +kernel
theorem dX5_init_84 : decode cX5_init 84 = .ok (.putfield 51, 3) := by decide +kernel
theorem dX5_init_87 : decode cX5_init 87 = .ok (.aload_n 0, 1) := by decide +kernel
theorem dX5_init_88 : decode cX5_init 88 = .ok (.iconst 0, 1) := by decide +kernel
theorem dX5_init_89 : decode cX5_init 89 = .ok (.putfield 54, 3) := by decide +kernel
theorem dX5_init_92 : decode cX5_init 92 = .ok (.aload_n 0, 1) := by decide +kernel
theorem dX5_init_93 : decode cX5_init 93 = .ok (.iconst 0, 1) := by decide +kernel
theorem dX5_init_94 : decode cX5_init 94 = .ok (.putfield 58, 3) := by decide +kernel
theorem dX5_init_97 : decode cX5_init 97 = .ok (.iconst 0, 1) := by decide +kernel
theorem dX5_init_98 : decode cX5_init 98 = .ok (.istore_n 1, 1) := by decide +kernel
theorem dX5_init_99 : decode cX5_init 99 = .ok (.iload_n 1, 1) := by decide +kernel
theorem dX5_init_100 : decode cX5_init 100 = .ok (.iconst 2, 1) := by decide +kernel
theorem dX5_init_101 : decode cX5_init 101 = .ok (.if_icmp .ge 22, 3) := by decide +kernel
theorem dX5_init_104 : decode cX5_init 104 = .ok (.aload_n 0, 1) := by decide +kernel
theorem dX5_init_105 : decode cX5_init 105 = .ok (.getfield 19, 3) := by decide +kernel
theorem dX5_init_108 : decode cX5_init 108 = .ok (.iload_n 1, 1) := by decide +kernel
theorem dX5_init_109 : decode cX5_init 109 = .ok (.new 7, 3) := by decide +kernel
theorem dX5_init_112 : decode cX5_init 112 = .ok (.dup, 1) := by decide +kernel
theorem dX5_init_113 : decode cX5_init 113 = .ok (.invokespecial 9, 3) := by decide +kernel
theorem dX5_init_116 : decode cX5_init 116 = .ok (.aastore, 1) := by decide +kernel
theorem dX5_init_117 : decode cX5_init 117 = .ok (.iinc 1 1, 3) := by decide +kernel
theorem dX5_init_120 : decode cX5_init 120 = .ok (.goto (-21), 3) := by decide +kernel
theorem dX5_init_123 : decode cX5_init 123 = .ok (.iconst 0, 1) := by decide +kernel
theorem dX5_init_124 : decode cX5_init 124 = .ok (.istore_n 1, 1) := by decide +kernel
theorem dX5_init_125 : decode cX5_init 125 = .ok (.iload_n 1, 1) := by decide +kernel
theorem dX5_init_126 : decode cX5_init 126 = .ok (.iconst 4, 1) := by decide +kernel
theorem dX5_init_127 : decode cX5_init 127 = .ok (.if_icmp .ge 22, 3) := by decide +kernel
theorem dX5_init_130 : decode cX5_init 130 = .ok (.aload_n 0, 1) := by decide +kernel
theorem dX5_init_131 : decode cX5_init 131 = .ok (.getfield 43, 3) := by decide +kernel
theorem dX5_init_134 : decode cX5_init 134 = .ok (.iload_n 1, 1) := by decide +kernel
theorem dX5_init_135 : decode cX5_init 135 = .ok (.new 41, 3) := by decide +kernel
theorem dX5_init_138 : decode cX5_init 138 = .ok (.dup, 1) := by decide +kernel
theorem dX5_init_139 : decode cX5_init 139 = .ok (.invokespecial 61, 3) := by decide +kernel
theorem dX5_init_142 : decode cX5_init 142 = .ok (.aastore, 1) := by decide +kernel
theorem dX5_init_143 : decode cX5_init 143 = .ok (.iinc 1 1, 3) := by decide +kernel
theorem dX5_init_146 : decode cX5_init 146 = .ok (.goto (-21), 3) := by decide +kernel
theorem dX5_init_149 : decode cX5_init 149 = .ok (.return_, 1) := by decide +kernel
set_option maxRecDepth 20000 in
theorem ggX5_feed_X5_within : GoodIn wsX5_feed wsX5_within := goodIn_r _ [7] (by decide +kernel) (by decide +kernel)
set_option maxRecDepth 20000 in
theorem gX5_feed_X5_within : GoodIn wsX5_feed (va_wsS RX5 62 yX5_within wsX5_within) := goodIn_app (goodIn_of _ (by decide +kernel)) ggX5_feed_X5_within
set_option maxRecDepth 20000 in
theorem ggX5_feed_X3_append : GoodIn wsX5_feed wsX3_append := goodIn_r _ [12, 13, 14, 32, 33, 34, 35, 36] (by decide +kernel) (by decide +kernel)
set_option maxRecDepth 20000 in
theorem gX5_feed_X3_append : GoodIn wsX5_feed (wsV RX5 75 RX3 yX3_append wsX3_append) := goodIn_app (goodIn_of _ (by decide +kernel)) ggX5_feed_X3_append
theorem dX5_feed_0 : decode cX5_feed 0 = .ok (.iload_n 1, 1) := by decide +kernel
theorem dX5_feed_1 : decode cX5_feed 1 = .ok (.iconst 0, 1) := by decide +kernel
theorem dX5_feed_2 : decode cX5_feed 2 = .ok (.bipush 127, 2) := by decide +kernel
theorem dX5_feed_4 : decode cX5_feed 4 = .ok (.invokestatic 62, 3) := by decide +kernel
theorem dX5_feed_7 : decode cX5_feed 7 = .ok (.ifCond .ne 5, 3) := by decide +kernel
theorem dX5_feed_10 : decode cX5_feed 10 = .ok (.iconst (-1), 1) := by decide +kernel
theorem dX5_feed_11 : decode cX5_feed 11 = .ok (.ireturn, 1) := by decide +kernel
theorem dX5_feed_12 : decode cX5_feed 12 = .ok (.aload_n 0, 1) := by decide +kernel
theorem dX5_feed_13 : decode cX5_feed 13 = .ok (.getfield 30, 3) := by decide +kernel
theorem dX5_feed_16 : decode cX5_feed 16 = .ok (.getfield 66, 3) := by decide +kernel
theorem dX5_feed_19 : decode cX5_feed 19 = .ok (.getfield 70, 3) := by decide +kernel
theorem dX5_feed_22 : decode cX5_feed 22 = .ok (.sipush 160, 3) := by decide +kernel
theorem dX5_feed_25 : decode cX5_feed 25 = .ok (.if_icmp .lt 6, 3) := by decide +kernel
theorem dX5_feed_28 : decode cX5_feed 28 = .ok (.bipush (-3), 2) := by decide +kernel
theorem dX5_feed_30 : decode cX5_feed 30 = .ok (.ireturn, 1) := by decide +kernel
theorem dX5_feed_31 : decode cX5_feed 31 = .ok (.aload_n 0, 1) := by decide +kernel
theorem dX5_feed_32 : decode cX5_feed 32 = .ok (.getfield 30, 3) := by decide +kernel
theorem dX5_feed_35 : decode cX5_feed 35 = .ok (.getfield 66, 3) := by decide +kernel
theorem dX5_feed_38 : decode cX5_feed 38 = .ok (.iload_n 1, 1) := by decide +kernel
theorem dX5_feed_39 : decode cX5_feed 39 = .ok (.invokevirtual 75, 3) := by decide +kernel
theorem dX5_feed_42 : decode cX5_feed 42 = .ok (.aload_n 0, 1) := by decide +kernel
theorem dX5_feed_43 : decode cX5_feed 43 = .ok (.getfield 30, 3) := by decide +kernel
theorem dX5_feed_46 : decode cX5_feed 46 = .ok (.getfield 66, 3) := by decide +kernel
theorem dX5_feed_49 : decode cX5_feed 49 = .ok (.getfield 70, 3) := by decide +kernel
theorem dX5_feed_52 : decode cX5_feed 52 = .ok (.ireturn, 1) := by decide +kernel
set_option maxRecDepth 20000 in
theorem ggX5_end_X5_within : GoodIn wsX5_end wsX5_within := goodIn_r _ [7] (by decide +kernel) (by decide +kernel)
set_option maxRecDepth 20000 in
theorem gX5_end_X5_within : GoodIn wsX5_end (va_wsS RX5 62 yX5_within wsX5_within) := goodIn_app (goodIn_of _ (by decide +kernel)) ggX5_end_X5_within
theorem dX5_end_0 : decode cX5_end 0 = .ok (.iload_n 1, 1) := by decide +kernel
theorem dX5_end_1 : decode cX5_end 1 = .ok (.iconst 0, 1) := by decide +kernel
theorem dX5_end_2 : decode cX5_end 2 = .ok (.aload_n 0, 1) := by decide +kernel
theorem dX5_end_3 : decode cX5_end 3 = .ok (.getfield 30, 3) := by decide +kernel
theorem dX5_end_6 : decode cX5_end 6 = .ok (.getfield 66, 3) := by decide +kernel
theorem dX5_end_9 : decode cX5_end 9 = .ok (.getfield 70, 3) := by decide +kernel
theorem dX5_end_12 : decode cX5_end 12 = .ok (.invokestatic 62, 3) := by decide +kernel
theorem dX5_end_15 : decode cX5_end 15 = .ok (.ifCond .ne 5, 3) := by decide +kernel
theorem dX5_end_18 : decode cX5_end 18 = .ok (.iconst (-1), 1) := by decide +kernel
theorem dX5_end_19 : decode cX5_end 19 = .ok (.ireturn, 1) := by decide +kernel
theorem dX5_end_20 : decode cX5_end 20 = .ok (.aload_n 0, 1) := by decide +kernel
theorem dX5_end_21 : decode cX5_end 21 = .ok (.getfield 30, 3) := by decide +kernel
theorem dX5_end_24 : decode cX5_end 24 = .ok (.getfield 66, 3) := by decide +kernel
theorem dX5_end_27 : decode cX5_end 27 = .ok (.getfield 70, 3) := by decide +kernel
theorem dX5_end_30 : decode cX5_end 30 = .ok (.istore_n 2, 1) := by decide +kernel
theorem dX5_end_31 : decode cX5_end 31 = .ok (.aload_n 0, 1) := by decide +kernel
theorem dX5_end_32 : decode cX5_end 32 = .ok (.getfield 30, 3) := by decide +kernel
theorem dX5_end_35 : decode cX5_end 35 = .ok (.getfield 66, 3) := by decide +kernel
theorem dX5_end_38 : decode cX5_end 38 = .ok (.iload_n 1, 1) := by decide +kernel
theorem dX5_end_39 : decode cX5_end 39 = .ok (.putfield 70, 3) := by decide +kernel
theorem dX5_end_42 : decode cX5_end 42 = .ok (.iload_n 2, 1) := by decide +kernel
theorem dX5_end_43 : decode cX5_end 43 = .ok (.ireturn, 1) := by decide +kernel
set_option maxRecDepth 20000 in
theorem ggX5_text_X4_readText : GoodIn wsX5_text wsX4_readText := goodIn_r _ [17, 18, 19, 20, 21, 22, 23, 24, 25, 26, 27, 28, 29, 30, 31, 32, 33, 34, 35, 36, 37, 38, 39, 40, 41, 42, 43, 16, 44, 45, 46, 47, 48, 49, 50, 51, 52, 53, 54, 55, 56, 57, 58, 59, 60, 61, 62, 63, 64, 65, 66, 67, 68, 69, 70, 71, 72, 73, 74, 75, 76, 77, 78, 79, 80, 81, 82, 83, 84, 85, 86, 87, 88, 89, 90, 91, 92, 93, 94, 95, 96, 97, 98, 99, 100, 101, 102, 103, 104, 105, 106, 107, 108, 109, 110, 111, 112, 113, 114, 115, 116, 117, 118, 119, 120, 121, 122, 123, 124, 125, 126, 127, 128, 129, 130, 131, 132, 133, 134, 135, 136, 137, 138, 139, 140, 141, 142, 143, 144, 145, 146, 147, 148, 149, 150, 151, 152, 153, 154, 155, 156, 157, 158, 159, 160, 161, 162, 163, 164, 184, 185, 186, 187, 188, 189, 190, 191, 192, 193, 194, 199, 200, 201, 202, 203, 204, 205, 206, 207, 208] (by decide +kernel) (by decide +kernel)
set_option maxRecDepth 20000 in
theorem gX5_text_X4_readText : GoodIn wsX5_text (wsV RX5 79 RX4 yX4_readText wsX4_readText) := goodIn_app (goodIn_of _ (by decide +kernel)) ggX5_text_X4_readText
set_option maxRecDepth 20000 in
theorem ggX5_text_X0_copyFrom : GoodIn wsX5_text wsX0_copyFrom := goodIn_r _ [168, 156, 169, 170, 171, 172, 157, 36, 162, 163, 164, 37, 38, 39, 40, 199, 200, 201, 202, 203, 204, 205, 206, 207, 208] (by decide +kernel) (by decide +kernel)
set_option maxRecDepth 20000 in
theorem gX5_text_X0_copyFrom : GoodIn wsX5_text (wsV RX5 91 RX0 yX0_copyFrom wsX0_copyFrom) := goodIn_app (goodIn_of _ (by decide +kernel)) ggX5_text_X0_copyFrom
theorem dX5_text_0 : decode cX5_text 0 = .ok (.aload_n 0, 1) := by decide +kernel
theorem dX5_text_1 : decode cX5_text 1 = .ok (.getfield 30, 3) := by decide +kernel
theorem dX5_text_4 : decode cX5_text 4 = .ok (.invokevirtual 79, 3) := by decide +kernel
theorem dX5_text_7 : decode cX5_text 7 = .ok (.aload_n 0, 1) := by decide +kernel
theorem dX5_text_8 : decode cX5_text 8 = .ok (.getfield 30, 3) := by decide +kernel
theorem dX5_text_11 : decode cX5_text 11 = .ok (.getfield 66, 3) := by decide +kernel
theorem dX5_text_14 : decode cX5_text 14 = .ok (.iconst 0, 1) := by decide +kernel
theorem dX5_text_15 : decode cX5_text 15 = .ok (.putfield 70, 3) := by decide +kernel
theorem dX5_text_18 : decode cX5_text 18 = .ok (.aload_n 0, 1) := by decide +kernel
theorem dX5_text_19 : decode cX5_text 19 = .ok (.aload_n 0, 1) := by decide +kernel
theorem dX5_text_20 : decode cX5_text 20 = .ok (.getfield 30, 3) := by decide +kernel
theorem dX5_text_23 : decode cX5_text 23 = .ok (.getfield 82, 3) := by decide +kernel
theorem dX5_text_26 : decode cX5_text 26 = .ok (.putfield 54, 3) := by decide +kernel
theorem dX5_text_29 : decode cX5_text 29 = .ok (.aload_n 0, 1) := by decide +kernel
theorem dX5_text_30 : decode cX5_text 30 = .ok (.getfield 54, 3) := by decide +kernel
theorem dX5_text_33 : decode cX5_text 33 = .ok (.ifCond .eq 14, 3) := by decide +kernel
theorem dX5_text_36 : decode cX5_text 36 = .ok (.bipush (-10), 2) := by decide +kernel
theorem dX5_text_38 : decode cX5_text 38 = .ok (.aload_n 0, 1) := by decide +kernel
theorem dX5_text_39 : decode cX5_text 39 = .ok (.getfield 30, 3) := by decide +kernel
theorem dX5_text_42 : decode cX5_text 42 = .ok (.getfield 85, 3) := by decide +kernel
theorem dX5_text_45 : decode cX5_text 45 = .ok (.isub, 1) := by decide +kernel
theorem dX5_text_46 : decode cX5_text 46 = .ok (.ireturn, 1) := by decide +kernel
theorem dX5_text_47 : decode cX5_text 47 = .ok (.aload_n 0, 1) := by decide +kernel
theorem dX5_text_48 : decode cX5_text 48 = .ok (.getfield 10, 3) := by decide +kernel
theorem dX5_text_51 : decode cX5_text 51 = .ok (.aload_n 0, 1) := by decide +kernel
theorem dX5_text_52 : decode cX5_text 52 = .ok (.getfield 30, 3) := by decide +kernel
theorem dX5_text_55 : decode cX5_text 55 = .ok (.getfield 88, 3) := by decide +kernel
theorem dX5_text_58 : decode cX5_text 58 = .ok (.invokevirtual 91, 3) := by decide +kernel
theorem dX5_text_61 : decode cX5_text 61 = .ok (.aload_n 0, 1) := by decide +kernel
theorem dX5_text_62 : decode cX5_text 62 = .ok (.getfield 37, 3) := by decide +kernel
theorem dX5_text_65 : decode cX5_text 65 = .ok (.iconst 0, 1) := by decide +kernel
theorem dX5_text_66 : decode cX5_text 66 = .ok (.putfield 95, 3) := by decide +kernel
theorem dX5_text_69 : decode cX5_text 69 = .ok (.iconst 0, 1) := by decide +kernel
theorem dX5_text_70 : decode cX5_text 70 = .ok (.istore_n 1, 1) := by decide +kernel
theorem dX5_text_71 : decode cX5_text 71 = .ok (.iload_n 1, 1) := by decide +kernel
theorem dX5_text_72 : decode cX5_text 72 = .ok (.iconst 2, 1) := by decide +kernel
theorem dX5_text_73 : decode cX5_text 73 = .ok (.if_icmp .ge 16, 3) := by decide +kernel
theorem dX5_text_76 : decode cX5_text 76 = .ok (.aload_n 0, 1) := by decide +kernel
theorem dX5_text_77 : decode cX5_text 77 = .ok (.getfield 23, 3) := by decide +kernel
theorem dX5_text_80 : decode cX5_text 80 = .ok (.iload_n 1, 1) := by decide +kernel
theorem dX5_text_81 : decode cX5_text 81 = .ok (.iconst 0, 1) := by decide +kernel
theorem dX5_text_82 : decode cX5_text 82 = .ok (.bastore, 1) := by decide +kernel
theorem dX5_text_83 : decode cX5_text 83 = .ok (.iinc 1 1, 3) := by decide +kernel
theorem dX5_text_86 : decode cX5_text 86 = .ok (.goto (-15), 3) := by decide +kernel
theorem dX5_text_89 : decode cX5_text 89 = .ok (.aload_n 0, 1) := by decide +kernel
theorem dX5_text_90 : decode cX5_text 90 = .ok (.getfield 30, 3) := by decide +kernel
theorem dX5_text_93 : decode cX5_text 93 = .ok (.getfield 96, 3) := by decide +kernel
theorem dX5_text_96 : decode cX5_text 96 = .ok (.ireturn, 1) := by decide +kernel
theorem dX5_fault_0 : decode cX5_fault 0 = .ok (.aload_n 0, 1) := by decide +kernel
theorem dX5_fault_1 : decode cX5_fault 1 = .ok (.getfield 54, 3) := by decide +kernel
theorem dX5_fault_4 : decode cX5_fault 4 = .ok (.ireturn, 1) := by decide +kernel
set_option maxRecDepth 20000 in
theorem ggX5_rule_X0_area : GoodIn wsX5_rule wsX0_area := goodIn_r _ [12, 13, 14, 15, 16, 11, 17, 18, 19, 20, 21, 38, 39, 40, 41, 42, 43, 44, 45, 46, 47] (by decide +kernel) (by decide +kernel)
set_option maxRecDepth 20000 in
theorem gX5_rule_X0_area : GoodIn wsX5_rule (wsV RX5 109 RX0 yX0_area wsX0_area) := goodIn_app (goodIn_of _ (by decide +kernel)) ggX5_rule_X0_area
set_option maxRecDepth 20000 in
theorem ggX5_rule_X0_edgeAhead : GoodIn wsX5_rule wsX0_edgeAhead := goodIn_r _ [25, 13, 26, 38, 39, 40, 41, 42, 43, 44, 45, 46, 47] (by decide +kernel) (by decide +kernel)
set_option maxRecDepth 20000 in
theorem gX5_rule_X0_edgeAhead : GoodIn wsX5_rule (wsV RX5 113 RX0 yX0_edgeAhead wsX0_edgeAhead) := goodIn_app (goodIn_of _ (by decide +kernel)) ggX5_rule_X0_edgeAhead
theorem dX5_rule_0 : decode cX5_rule 0 = .ok (.iload_n 1, 1) := by decide +kernel
theorem dX5_rule_1 : decode cX5_rule 1 = .ok (.tableswitch 103 0 6 #[43, 51, 59, 67, 78, 87, 95], 43) := by decide +kernel
theorem dX5_rule_44 : decode cX5_rule 44 = .ok (.aload_n 0, 1) := by decide +kernel
theorem dX5_rule_45 : decode cX5_rule 45 = .ok (.getfield 10, 3) := by decide +kernel
theorem dX5_rule_48 : decode cX5_rule 48 = .ok (.getfield 99, 3) := by decide +kernel
theorem dX5_rule_51 : decode cX5_rule 51 = .ok (.ireturn, 1) := by decide +kernel
theorem dX5_rule_52 : decode cX5_rule 52 = .ok (.aload_n 0, 1) := by decide +kernel
theorem dX5_rule_53 : decode cX5_rule 53 = .ok (.getfield 10, 3) := by decide +kernel
theorem dX5_rule_56 : decode cX5_rule 56 = .ok (.getfield 102, 3) := by decide +kernel
theorem dX5_rule_59 : decode cX5_rule 59 = .ok (.ireturn, 1) := by decide +kernel
theorem dX5_rule_60 : decode cX5_rule 60 = .ok (.aload_n 0, 1) := by decide +kernel
theorem dX5_rule_61 : decode cX5_rule 61 = .ok (.getfield 10, 3) := by decide +kernel
theorem dX5_rule_64 : decode cX5_rule 64 = .ok (.getfield 105, 3) := by decide +kernel
theorem dX5_rule_67 : decode cX5_rule 67 = .ok (.ireturn, 1) := by decide +kernel
theorem dX5_rule_68 : decode cX5_rule 68 = .ok (.ldc 108, 2) := by decide +kernel
theorem dX5_rule_70 : decode cX5_rule 70 = .ok (.aload_n 0, 1) := by decide +kernel
theorem dX5_rule_71 : decode cX5_rule 71 = .ok (.getfield 10, 3) := by decide +kernel
theorem dX5_rule_74 : decode cX5_rule 74 = .ok (.invokevirtual 109, 3) := by decide +kernel
theorem dX5_rule_77 : decode cX5_rule 77 = .ok (.iadd, 1) := by decide +kernel
theorem dX5_rule_78 : decode cX5_rule 78 = .ok (.ireturn, 1) := by decide +kernel
theorem dX5_rule_79 : decode cX5_rule 79 = .ok (.aload_n 0, 1) := by decide +kernel
theorem dX5_rule_80 : decode cX5_rule 80 = .ok (.getfield 10, 3) := by decide +kernel
theorem dX5_rule_83 : decode cX5_rule 83 = .ok (.iconst 0, 1) := by decide +kernel
theorem dX5_rule_84 : decode cX5_rule 84 = .ok (.invokevirtual 113, 3) := by decide +kernel
theorem dX5_rule_87 : decode cX5_rule 87 = .ok (.ireturn, 1) := by decide +kernel
theorem dX5_rule_88 : decode cX5_rule 88 = .ok (.aload_n 0, 1) := by decide +kernel
theorem dX5_rule_89 : decode cX5_rule 89 = .ok (.getfield 10, 3) := by decide +kernel
theorem dX5_rule_92 : decode cX5_rule 92 = .ok (.getfield 117, 3) := by decide +kernel
theorem dX5_rule_95 : decode cX5_rule 95 = .ok (.ireturn, 1) := by decide +kernel
theorem dX5_rule_96 : decode cX5_rule 96 = .ok (.aload_n 0, 1) := by decide +kernel
theorem dX5_rule_97 : decode cX5_rule 97 = .ok (.getfield 10, 3) := by decide +kernel
theorem dX5_rule_100 : decode cX5_rule 100 = .ok (.getfield 120, 3) := by decide +kernel
theorem dX5_rule_103 : decode cX5_rule 103 = .ok (.ireturn, 1) := by decide +kernel
theorem dX5_rule_104 : decode cX5_rule 104 = .ok (.iconst (-1), 1) := by decide +kernel
theorem dX5_rule_105 : decode cX5_rule 105 = .ok (.ireturn, 1) := by decide +kernel
set_option maxRecDepth 20000 in
theorem ggX5_corner_X5_hasCorner : GoodIn wsX5_corner wsX5_hasCorner := goodIn_r _ [8, 1, 9, 10, 11, 7, 12, 23, 24, 25, 26, 27, 28, 29, 30, 31, 32, 33, 34, 35, 36, 37, 38, 39, 40, 41, 42, 43] (by decide +kernel) (by decide +kernel)
set_option maxRecDepth 20000 in
theorem gX5_corner_X5_hasCorner : GoodIn wsX5_corner (wsV RX5 123 RX5 yX5_hasCorner wsX5_hasCorner) := goodIn_app (goodIn_of _ (by decide +kernel)) ggX5_corner_X5_hasCorner
set_option maxRecDepth 20000 in
theorem ggX5_corner_X0_sweepOf : GoodIn wsX5_corner wsX0_sweepOf := goodIn_r _ [17, 18, 19, 20, 21, 22, 34, 35, 36, 37, 38, 39, 40, 41, 42, 43] (by decide +kernel) (by decide +kernel)
set_option maxRecDepth 20000 in
theorem gX5_corner_X0_sweepOf : GoodIn wsX5_corner (wsV RX5 133 RX0 yX0_sweepOf wsX0_sweepOf) := goodIn_app (goodIn_of _ (by decide +kernel)) ggX5_corner_X0_sweepOf
theorem dX5_corner_0 : decode cX5_corner 0 = .ok (.aload_n 0, 1) := by decide +kernel
theorem dX5_corner_1 : decode cX5_corner 1 = .ok (.iload_n 1, 1) := by decide +kernel
theorem dX5_corner_2 : decode cX5_corner 2 = .ok (.invokevirtual 123, 3) := by decide +kernel
theorem dX5_corner_5 : decode cX5_corner 5 = .ok (.ifCond .ne 5, 3) := by decide +kernel
theorem dX5_corner_8 : decode cX5_corner 8 = .ok (.iconst (-1), 1) := by decide +kernel
theorem dX5_corner_9 : decode cX5_corner 9 = .ok (.ireturn, 1) := by decide +kernel
theorem dX5_corner_10 : decode cX5_corner 10 = .ok (.iload_n 2, 1) := by decide +kernel
theorem dX5_corner_11 : decode cX5_corner 11 = .ok (.tableswitch 58 0 2 #[25, 35, 45], 25) := by decide +kernel
theorem dX5_corner_36 : decode cX5_corner 36 = .ok (.aload_n 0, 1) := by decide +kernel
theorem dX5_corner_37 : decode cX5_corner 37 = .ok (.getfield 10, 3) := by decide +kernel
theorem dX5_corner_40 : decode cX5_corner 40 = .ok (.getfield 127, 3) := by decide +kernel
theorem dX5_corner_43 : decode cX5_corner 43 = .ok (.iload_n 1, 1) := by decide +kernel
theorem dX5_corner_44 : decode cX5_corner 44 = .ok (.iaload, 1) := by decide +kernel
theorem dX5_corner_45 : decode cX5_corner 45 = .ok (.ireturn, 1) := by decide +kernel
theorem dX5_corner_46 : decode cX5_corner 46 = .ok (.aload_n 0, 1) := by decide +kernel
theorem dX5_corner_47 : decode cX5_corner 47 = .ok (.getfield 10, 3) := by decide +kernel
theorem dX5_corner_50 : decode cX5_corner 50 = .ok (.getfield 130, 3) := by decide +kernel
theorem dX5_corner_53 : decode cX5_corner 53 = .ok (.iload_n 1, 1) := by decide +kernel
theorem dX5_corner_54 : decode cX5_corner 54 = .ok (.iaload, 1) := by decide +kernel
theorem dX5_corner_55 : decode cX5_corner 55 = .ok (.ireturn, 1) := by decide +kernel
theorem dX5_corner_56 : decode cX5_corner 56 = .ok (.sipush 10000, 3) := by decide +kernel
theorem dX5_corner_59 : decode cX5_corner 59 = .ok (.aload_n 0, 1) := by decide +kernel
theorem dX5_corner_60 : decode cX5_corner 60 = .ok (.getfield 10, 3) := by decide +kernel
theorem dX5_corner_63 : decode cX5_corner 63 = .ok (.iload_n 1, 1) := by decide +kernel
theorem dX5_corner_64 : decode cX5_corner 64 = .ok (.invokevirtual 133, 3) := by decide +kernel
theorem dX5_corner_67 : decode cX5_corner 67 = .ok (.iadd, 1) := by decide +kernel
theorem dX5_corner_68 : decode cX5_corner 68 = .ok (.ireturn, 1) := by decide +kernel
theorem dX5_corner_69 : decode cX5_corner 69 = .ok (.iconst (-1), 1) := by decide +kernel
theorem dX5_corner_70 : decode cX5_corner 70 = .ok (.ireturn, 1) := by decide +kernel
set_option maxRecDepth 20000 in
theorem ggX5_wheel_X5_hasWheel : GoodIn wsX5_wheel wsX5_hasWheel := goodIn_r _ [10, 1, 11, 12, 13, 9, 14, 47, 48, 49, 50, 51, 52, 53, 54, 55, 56, 57, 58, 59, 60, 61, 62, 63, 64, 65, 66, 67] (by decide +kernel) (by decide +kernel)
set_option maxRecDepth 20000 in
theorem gX5_wheel_X5_hasWheel : GoodIn wsX5_wheel (wsV RX5 136 RX5 yX5_hasWheel wsX5_hasWheel) := goodIn_app (goodIn_of _ (by decide +kernel)) ggX5_wheel_X5_hasWheel
set_option maxRecDepth 20000 in
theorem ggX5_wheel_X0_shownBy : GoodIn wsX5_wheel wsX0_shownBy := goodIn_r _ [19, 20, 21, 22, 58, 59, 60, 61, 62, 63, 64, 65, 66, 67] (by decide +kernel) (by decide +kernel)
set_option maxRecDepth 20000 in
theorem gX5_wheel_X0_shownBy : GoodIn wsX5_wheel (wsV RX5 149 RX0 yX0_shownBy wsX0_shownBy) := goodIn_app (goodIn_of _ (by decide +kernel)) ggX5_wheel_X0_shownBy
set_option maxRecDepth 20000 in
theorem ggX5_wheel_X0_errorOf : GoodIn wsX5_wheel wsX0_errorOf := goodIn_r _ [26, 27, 28, 29, 30, 31, 32, 33, 34, 18, 35, 36, 37, 38, 39, 40, 41, 42, 43, 22, 21, 44, 45, 46, 58, 59, 60, 61, 62, 63, 64, 65, 66, 67] (by decide +kernel) (by decide +kernel)
set_option maxRecDepth 20000 in
theorem gX5_wheel_X0_errorOf : GoodIn wsX5_wheel (wsV RX5 152 RX0 yX0_errorOf wsX0_errorOf) := goodIn_app (goodIn_of _ (by decide +kernel)) ggX5_wheel_X0_errorOf
theorem dX5_wheel_0 : decode cX5_wheel 0 = .ok (.aload_n 0, 1) := by decide +kernel
theorem dX5_wheel_1 : decode cX5_wheel 1 = .ok (.iload_n 1, 1) := by decide +kernel
theorem dX5_wheel_2 : decode cX5_wheel 2 = .ok (.invokevirtual 136, 3) := by decide +kernel
theorem dX5_wheel_5 : decode cX5_wheel 5 = .ok (.ifCond .ne 5, 3) := by decide +kernel
theorem dX5_wheel_8 : decode cX5_wheel 8 = .ok (.iconst (-1), 1) := by decide +kernel
theorem dX5_wheel_9 : decode cX5_wheel 9 = .ok (.ireturn, 1) := by decide +kernel
theorem dX5_wheel_10 : decode cX5_wheel 10 = .ok (.iload_n 2, 1) := by decide +kernel
theorem dX5_wheel_11 : decode cX5_wheel 11 = .ok (.tableswitch 87 0 4 #[33, 43, 53, 66, 78], 33) := by decide +kernel
theorem dX5_wheel_44 : decode cX5_wheel 44 = .ok (.aload_n 0, 1) := by decide +kernel
theorem dX5_wheel_45 : decode cX5_wheel 45 = .ok (.getfield 10, 3) := by decide +kernel
theorem dX5_wheel_48 : decode cX5_wheel 48 = .ok (.getfield 139, 3) := by decide +kernel
theorem dX5_wheel_51 : decode cX5_wheel 51 = .ok (.iload_n 1, 1) := by decide +kernel
theorem dX5_wheel_52 : decode cX5_wheel 52 = .ok (.iaload, 1) := by decide +kernel
theorem dX5_wheel_53 : decode cX5_wheel 53 = .ok (.ireturn, 1) := by decide +kernel
theorem dX5_wheel_54 : decode cX5_wheel 54 = .ok (.aload_n 0, 1) := by decide +kernel
theorem dX5_wheel_55 : decode cX5_wheel 55 = .ok (.getfield 10, 3) := by decide +kernel
theorem dX5_wheel_58 : decode cX5_wheel 58 = .ok (.getfield 142, 3) := by decide +kernel
theorem dX5_wheel_61 : decode cX5_wheel 61 = .ok (.iload_n 1, 1) := by decide +kernel
theorem dX5_wheel_62 : decode cX5_wheel 62 = .ok (.iaload, 1) := by decide +kernel
theorem dX5_wheel_63 : decode cX5_wheel 63 = .ok (.ireturn, 1) := by decide +kernel
theorem dX5_wheel_64 : decode cX5_wheel 64 = .ok (.ldc 145, 2) := by decide +kernel
theorem dX5_wheel_66 : decode cX5_wheel 66 = .ok (.aload_n 0, 1) := by decide +kernel
theorem dX5_wheel_67 : decode cX5_wheel 67 = .ok (.getfield 10, 3) := by decide +kernel
theorem dX5_wheel_70 : decode cX5_wheel 70 = .ok (.getfield 146, 3) := by decide +kernel
theorem dX5_wheel_73 : decode cX5_wheel 73 = .ok (.iload_n 1, 1) := by decide +kernel
theorem dX5_wheel_74 : decode cX5_wheel 74 = .ok (.iaload, 1) := by decide +kernel
theorem dX5_wheel_75 : decode cX5_wheel 75 = .ok (.iadd, 1) := by decide +kernel
theorem dX5_wheel_76 : decode cX5_wheel 76 = .ok (.ireturn, 1) := by decide +kernel
theorem dX5_wheel_77 : decode cX5_wheel 77 = .ok (.ldc 145, 2) := by decide +kernel
theorem dX5_wheel_79 : decode cX5_wheel 79 = .ok (.aload_n 0, 1) := by decide +kernel
theorem dX5_wheel_80 : decode cX5_wheel 80 = .ok (.getfield 10, 3) := by decide +kernel
theorem dX5_wheel_83 : decode cX5_wheel 83 = .ok (.iload_n 1, 1) := by decide +kernel
theorem dX5_wheel_84 : decode cX5_wheel 84 = .ok (.invokevirtual 149, 3) := by decide +kernel
theorem dX5_wheel_87 : decode cX5_wheel 87 = .ok (.iadd, 1) := by decide +kernel
theorem dX5_wheel_88 : decode cX5_wheel 88 = .ok (.ireturn, 1) := by decide +kernel
theorem dX5_wheel_89 : decode cX5_wheel 89 = .ok (.aload_n 0, 1) := by decide +kernel
theorem dX5_wheel_90 : decode cX5_wheel 90 = .ok (.getfield 10, 3) := by decide +kernel
theorem dX5_wheel_93 : decode cX5_wheel 93 = .ok (.iload_n 1, 1) := by decide +kernel
theorem dX5_wheel_94 : decode cX5_wheel 94 = .ok (.invokevirtual 152, 3) := by decide +kernel
theorem dX5_wheel_97 : decode cX5_wheel 97 = .ok (.ireturn, 1) := by decide +kernel
theorem dX5_wheel_98 : decode cX5_wheel 98 = .ok (.iconst (-1), 1) := by decide +kernel
theorem dX5_wheel_99 : decode cX5_wheel 99 = .ok (.ireturn, 1) := by decide +kernel
set_option maxRecDepth 20000 in
theorem ggX5_alter_X5_hasWheel : GoodIn wsX5_alter wsX5_hasWheel := goodIn_r _ [8, 1, 9, 10, 11, 7, 12, 19, 20, 21, 22, 23, 24, 25, 26, 27, 28, 29, 30, 31, 32, 33, 34, 35, 36, 37, 38, 39] (by decide +kernel) (by decide +kernel)
set_option maxRecDepth 20000 in
theorem gX5_alter_X5_hasWheel : GoodIn wsX5_alter (wsV RX5 136 RX5 yX5_hasWheel wsX5_hasWheel) := goodIn_app (goodIn_of _ (by decide +kernel)) ggX5_alter_X5_hasWheel
set_option maxRecDepth 20000 in
theorem ggX5_alter_X5_isKind : GoodIn wsX5_alter wsX5_isKind := goodIn_r _ [15, 10, 11, 7, 12] (by decide +kernel) (by decide +kernel)
set_option maxRecDepth 20000 in
theorem gX5_alter_X5_isKind : GoodIn wsX5_alter (va_wsS RX5 155 yX5_isKind wsX5_isKind) := goodIn_app (goodIn_of _ (by decide +kernel)) ggX5_alter_X5_isKind
set_option maxRecDepth 20000 in
theorem ggX5_alter_X5_isStep : GoodIn wsX5_alter wsX5_isStep := goodIn_r _ [18, 10, 11, 7, 12] (by decide +kernel) (by decide +kernel)
set_option maxRecDepth 20000 in
theorem gX5_alter_X5_isStep : GoodIn wsX5_alter (va_wsS RX5 158 yX5_isStep wsX5_isStep) := goodIn_app (goodIn_of _ (by decide +kernel)) ggX5_alter_X5_isStep
theorem dX5_alter_0 : decode cX5_alter 0 = .ok (.aload_n 0, 1) := by decide +kernel
theorem dX5_alter_1 : decode cX5_alter 1 = .ok (.iload_n 1, 1) := by decide +kernel
theorem dX5_alter_2 : decode cX5_alter 2 = .ok (.invokevirtual 136, 3) := by decide +kernel
theorem dX5_alter_5 : decode cX5_alter 5 = .ok (.ifCond .ne 5, 3) := by decide +kernel
theorem dX5_alter_8 : decode cX5_alter 8 = .ok (.iconst (-1), 1) := by decide +kernel
theorem dX5_alter_9 : decode cX5_alter 9 = .ok (.ireturn, 1) := by decide +kernel
theorem dX5_alter_10 : decode cX5_alter 10 = .ok (.iload_n 2, 1) := by decide +kernel
theorem dX5_alter_11 : decode cX5_alter 11 = .ok (.ifCond .ne 34, 3) := by decide +kernel
theorem dX5_alter_14 : decode cX5_alter 14 = .ok (.iload_n 3, 1) := by decide +kernel
theorem dX5_alter_15 : decode cX5_alter 15 = .ok (.invokestatic 155, 3) := by decide +kernel
theorem dX5_alter_18 : decode cX5_alter 18 = .ok (.ifCond .eq 27, 3) := by decide +kernel
theorem dX5_alter_21 : decode cX5_alter 21 = .ok (.aload_n 0, 1) := by decide +kernel
theorem dX5_alter_22 : decode cX5_alter 22 = .ok (.getfield 10, 3) := by decide +kernel
theorem dX5_alter_25 : decode cX5_alter 25 = .ok (.getfield 139, 3) := by decide +kernel
theorem dX5_alter_28 : decode cX5_alter 28 = .ok (.iload_n 1, 1) := by decide +kernel
theorem dX5_alter_29 : decode cX5_alter 29 = .ok (.iaload, 1) := by decide +kernel
theorem dX5_alter_30 : decode cX5_alter 30 = .ok (.istore 4, 2) := by decide +kernel
theorem dX5_alter_32 : decode cX5_alter 32 = .ok (.aload_n 0, 1) := by decide +kernel
theorem dX5_alter_33 : decode cX5_alter 33 = .ok (.getfield 10, 3) := by decide +kernel
theorem dX5_alter_36 : decode cX5_alter 36 = .ok (.getfield 139, 3) := by decide +kernel
theorem dX5_alter_39 : decode cX5_alter 39 = .ok (.iload_n 1, 1) := by decide +kernel
theorem dX5_alter_40 : decode cX5_alter 40 = .ok (.iload_n 3, 1) := by decide +kernel
theorem dX5_alter_41 : decode cX5_alter 41 = .ok (.iastore, 1) := by decide +kernel
theorem dX5_alter_42 : decode cX5_alter 42 = .ok (.iload 4, 2) := by decide +kernel
theorem dX5_alter_44 : decode cX5_alter 44 = .ok (.ireturn, 1) := by decide +kernel
theorem dX5_alter_45 : decode cX5_alter 45 = .ok (.iload_n 2, 1) := by decide +kernel
theorem dX5_alter_46 : decode cX5_alter 46 = .ok (.iconst 1, 1) := by decide +kernel
theorem dX5_alter_47 : decode cX5_alter 47 = .ok (.if_icmp .ne 34, 3) := by decide +kernel
theorem dX5_alter_50 : decode cX5_alter 50 = .ok (.iload_n 3, 1) := by decide +kernel
theorem dX5_alter_51 : decode cX5_alter 51 = .ok (.invokestatic 158, 3) := by decide +kernel
theorem dX5_alter_54 : decode cX5_alter 54 = .ok (.ifCond .eq 27, 3) := by decide +kernel
theorem dX5_alter_57 : decode cX5_alter 57 = .ok (.aload_n 0, 1) := by decide +kernel
theorem dX5_alter_58 : decode cX5_alter 58 = .ok (.getfield 10, 3) := by decide +kernel
theorem dX5_alter_61 : decode cX5_alter 61 = .ok (.getfield 142, 3) := by decide +kernel
theorem dX5_alter_64 : decode cX5_alter 64 = .ok (.iload_n 1, 1) := by decide +kernel
theorem dX5_alter_65 : decode cX5_alter 65 = .ok (.iaload, 1) := by decide +kernel
theorem dX5_alter_66 : decode cX5_alter 66 = .ok (.istore 4, 2) := by decide +kernel
theorem dX5_alter_68 : decode cX5_alter 68 = .ok (.aload_n 0, 1) := by decide +kernel
theorem dX5_alter_69 : decode cX5_alter 69 = .ok (.getfield 10, 3) := by decide +kernel
theorem dX5_alter_72 : decode cX5_alter 72 = .ok (.getfield 142, 3) := by decide +kernel
theorem dX5_alter_75 : decode cX5_alter 75 = .ok (.iload_n 1, 1) := by decide +kernel
theorem dX5_alter_76 : decode cX5_alter 76 = .ok (.iload_n 3, 1) := by decide +kernel
theorem dX5_alter_77 : decode cX5_alter 77 = .ok (.iastore, 1) := by decide +kernel
theorem dX5_alter_78 : decode cX5_alter 78 = .ok (.iload 4, 2) := by decide +kernel
theorem dX5_alter_80 : decode cX5_alter 80 = .ok (.ireturn, 1) := by decide +kernel
theorem dX5_alter_81 : decode cX5_alter 81 = .ok (.iconst (-1), 1) := by decide +kernel
theorem dX5_alter_82 : decode cX5_alter 82 = .ok (.ireturn, 1) := by decide +kernel
set_option maxRecDepth 20000 in
theorem ggX5_put_X5_isKind : GoodIn wsX5_put wsX5_isKind := goodIn_r _ [6, 7, 8, 5, 9] (by decide +kernel) (by decide +kernel)
set_option maxRecDepth 20000 in
theorem gX5_put_X5_isKind : GoodIn wsX5_put (va_wsS RX5 155 yX5_isKind wsX5_isKind) := goodIn_app (goodIn_of _ (by decide +kernel)) ggX5_put_X5_isKind
set_option maxRecDepth 20000 in
theorem ggX5_put_X5_isStep : GoodIn wsX5_put wsX5_isStep := goodIn_r _ [12, 7, 8, 5, 9] (by decide +kernel) (by decide +kernel)
set_option maxRecDepth 20000 in
theorem gX5_put_X5_isStep : GoodIn wsX5_put (va_wsS RX5 158 yX5_isStep wsX5_isStep) := goodIn_app (goodIn_of _ (by decide +kernel)) ggX5_put_X5_isStep
set_option maxRecDepth 20000 in
theorem ggX5_put_X0_appendWheel : GoodIn wsX5_put wsX0_appendWheel := goodIn_r _ [17, 18, 19, 20, 21, 33, 34, 35, 36, 37, 38, 39, 40, 41, 42] (by decide +kernel) (by decide +kernel)
set_option maxRecDepth 20000 in
theorem gX5_put_X0_appendWheel : GoodIn wsX5_put (wsV RX5 161 RX0 yX0_appendWheel wsX0_appendWheel) := goodIn_app (goodIn_of _ (by decide +kernel)) ggX5_put_X0_appendWheel
theorem dX5_put_0 : decode cX5_put 0 = .ok (.iload_n 1, 1) := by decide +kernel
theorem dX5_put_1 : decode cX5_put 1 = .ok (.invokestatic 155, 3) := by decide +kernel
theorem dX5_put_4 : decode cX5_put 4 = .ok (.ifCond .eq 10, 3) := by decide +kernel
theorem dX5_put_7 : decode cX5_put 7 = .ok (.iload_n 2, 1) := by decide +kernel
theorem dX5_put_8 : decode cX5_put 8 = .ok (.invokestatic 158, 3) := by decide +kernel
theorem dX5_put_11 : decode cX5_put 11 = .ok (.ifCond .ne 5, 3) := by decide +kernel
theorem dX5_put_14 : decode cX5_put 14 = .ok (.iconst (-1), 1) := by decide +kernel
theorem dX5_put_15 : decode cX5_put 15 = .ok (.ireturn, 1) := by decide +kernel
theorem dX5_put_16 : decode cX5_put 16 = .ok (.aload_n 0, 1) := by decide +kernel
theorem dX5_put_17 : decode cX5_put 17 = .ok (.getfield 10, 3) := by decide +kernel
theorem dX5_put_20 : decode cX5_put 20 = .ok (.getfield 102, 3) := by decide +kernel
theorem dX5_put_23 : decode cX5_put 23 = .ok (.iconst 4, 1) := by decide +kernel
theorem dX5_put_24 : decode cX5_put 24 = .ok (.if_icmp .lt 6, 3) := by decide +kernel
theorem dX5_put_27 : decode cX5_put 27 = .ok (.bipush (-3), 2) := by decide +kernel
theorem dX5_put_29 : decode cX5_put 29 = .ok (.ireturn, 1) := by decide +kernel
theorem dX5_put_30 : decode cX5_put 30 = .ok (.aload_n 0, 1) := by decide +kernel
theorem dX5_put_31 : decode cX5_put 31 = .ok (.getfield 10, 3) := by decide +kernel
theorem dX5_put_34 : decode cX5_put 34 = .ok (.iload_n 1, 1) := by decide +kernel
theorem dX5_put_35 : decode cX5_put 35 = .ok (.iload_n 2, 1) := by decide +kernel
theorem dX5_put_36 : decode cX5_put 36 = .ok (.invokevirtual 161, 3) := by decide +kernel
theorem dX5_put_39 : decode cX5_put 39 = .ok (.aload_n 0, 1) := by decide +kernel
theorem dX5_put_40 : decode cX5_put 40 = .ok (.getfield 10, 3) := by decide +kernel
theorem dX5_put_43 : decode cX5_put 43 = .ok (.getfield 102, 3) := by decide +kernel
theorem dX5_put_46 : decode cX5_put 46 = .ok (.ireturn, 1) := by decide +kernel
set_option maxRecDepth 20000 in
theorem ggX5_cut_X5_within : GoodIn wsX5_cut wsX5_within := goodIn_r _ [6] (by decide +kernel) (by decide +kernel)
set_option maxRecDepth 20000 in
theorem gX5_cut_X5_within : GoodIn wsX5_cut (va_wsS RX5 62 yX5_within wsX5_within) := goodIn_app (goodIn_of _ (by decide +kernel)) ggX5_cut_X5_within
theorem dX5_cut_0 : decode cX5_cut 0 = .ok (.iload_n 1, 1) := by decide +kernel
theorem dX5_cut_1 : decode cX5_cut 1 = .ok (.iconst 0, 1) := by decide +kernel
theorem dX5_cut_2 : decode cX5_cut 2 = .ok (.aload_n 0, 1) := by decide +kernel
theorem dX5_cut_3 : decode cX5_cut 3 = .ok (.getfield 10, 3) := by decide +kernel
theorem dX5_cut_6 : decode cX5_cut 6 = .ok (.getfield 102, 3) := by decide +kernel
theorem dX5_cut_9 : decode cX5_cut 9 = .ok (.invokestatic 62, 3) := by decide +kernel
theorem dX5_cut_12 : decode cX5_cut 12 = .ok (.ifCond .ne 5, 3) := by decide +kernel
theorem dX5_cut_15 : decode cX5_cut 15 = .ok (.iconst (-1), 1) := by decide +kernel
theorem dX5_cut_16 : decode cX5_cut 16 = .ok (.ireturn, 1) := by decide +kernel
theorem dX5_cut_17 : decode cX5_cut 17 = .ok (.aload_n 0, 1) := by decide +kernel
theorem dX5_cut_18 : decode cX5_cut 18 = .ok (.getfield 10, 3) := by decide +kernel
theorem dX5_cut_21 : decode cX5_cut 21 = .ok (.getfield 102, 3) := by decide +kernel
theorem dX5_cut_24 : decode cX5_cut 24 = .ok (.istore_n 2, 1) := by decide +kernel
theorem dX5_cut_25 : decode cX5_cut 25 = .ok (.aload_n 0, 1) := by decide +kernel
theorem dX5_cut_26 : decode cX5_cut 26 = .ok (.getfield 10, 3) := by decide +kernel
theorem dX5_cut_29 : decode cX5_cut 29 = .ok (.iload_n 1, 1) := by decide +kernel
theorem dX5_cut_30 : decode cX5_cut 30 = .ok (.putfield 102, 3) := by decide +kernel
theorem dX5_cut_33 : decode cX5_cut 33 = .ok (.iload_n 2, 1) := by decide +kernel
theorem dX5_cut_34 : decode cX5_cut 34 = .ok (.ireturn, 1) := by decide +kernel
set_option maxRecDepth 20000 in
theorem ggX5_zero_X5_hasWheel : GoodIn wsX5_zero wsX5_hasWheel := goodIn_r _ [8, 1, 9, 10, 11, 7, 12, 13, 14, 15, 16, 17, 18, 19, 20, 21, 22, 23, 24, 25, 26, 27, 28, 29, 30, 31, 32, 33] (by decide +kernel) (by decide +kernel)
set_option maxRecDepth 20000 in
theorem gX5_zero_X5_hasWheel : GoodIn wsX5_zero (wsV RX5 136 RX5 yX5_hasWheel wsX5_hasWheel) := goodIn_app (goodIn_of _ (by decide +kernel)) ggX5_zero_X5_hasWheel
theorem dX5_zero_0 : decode cX5_zero 0 = .ok (.aload_n 0, 1) := by decide +kernel
theorem dX5_zero_1 : decode cX5_zero 1 = .ok (.iload_n 1, 1) := by decide +kernel
theorem dX5_zero_2 : decode cX5_zero 2 = .ok (.invokevirtual 136, 3) := by decide +kernel
theorem dX5_zero_5 : decode cX5_zero 5 = .ok (.ifCond .ne 5, 3) := by decide +kernel
theorem dX5_zero_8 : decode cX5_zero 8 = .ok (.iconst (-1), 1) := by decide +kernel
theorem dX5_zero_9 : decode cX5_zero 9 = .ok (.ireturn, 1) := by decide +kernel
theorem dX5_zero_10 : decode cX5_zero 10 = .ok (.aload_n 0, 1) := by decide +kernel
theorem dX5_zero_11 : decode cX5_zero 11 = .ok (.getfield 10, 3) := by decide +kernel
theorem dX5_zero_14 : decode cX5_zero 14 = .ok (.getfield 146, 3) := by decide +kernel
theorem dX5_zero_17 : decode cX5_zero 17 = .ok (.iload_n 1, 1) := by decide +kernel
theorem dX5_zero_18 : decode cX5_zero 18 = .ok (.iaload, 1) := by decide +kernel
theorem dX5_zero_19 : decode cX5_zero 19 = .ok (.istore_n 2, 1) := by decide +kernel
theorem dX5_zero_20 : decode cX5_zero 20 = .ok (.aload_n 0, 1) := by decide +kernel
theorem dX5_zero_21 : decode cX5_zero 21 = .ok (.getfield 10, 3) := by decide +kernel
theorem dX5_zero_24 : decode cX5_zero 24 = .ok (.getfield 146, 3) := by decide +kernel
theorem dX5_zero_27 : decode cX5_zero 27 = .ok (.iload_n 1, 1) := by decide +kernel
theorem dX5_zero_28 : decode cX5_zero 28 = .ok (.iconst 0, 1) := by decide +kernel
theorem dX5_zero_29 : decode cX5_zero 29 = .ok (.iastore, 1) := by decide +kernel
theorem dX5_zero_30 : decode cX5_zero 30 = .ok (.ldc 145, 2) := by decide +kernel
theorem dX5_zero_32 : decode cX5_zero 32 = .ok (.iload_n 2, 1) := by decide +kernel
theorem dX5_zero_33 : decode cX5_zero 33 = .ok (.iadd, 1) := by decide +kernel
theorem dX5_zero_34 : decode cX5_zero 34 = .ok (.ireturn, 1) := by decide +kernel
set_option maxRecDepth 20000 in
theorem ggX5_shift_X5_hasCorner : GoodIn wsX5_shift wsX5_hasCorner := goodIn_r _ [8, 1, 9, 10, 11, 7, 12, 26, 27, 28, 29, 30, 31, 32, 33, 34, 35, 36, 37, 38, 39, 40, 41, 42, 43, 44, 45, 46] (by decide +kernel) (by decide +kernel)
set_option maxRecDepth 20000 in
theorem gX5_shift_X5_hasCorner : GoodIn wsX5_shift (wsV RX5 123 RX5 yX5_hasCorner wsX5_hasCorner) := goodIn_app (goodIn_of _ (by decide +kernel)) ggX5_shift_X5_hasCorner
set_option maxRecDepth 20000 in
theorem ggX5_shift_X5_isPlace : GoodIn wsX5_shift wsX5_isPlace := goodIn_r _ [15, 10, 11, 7, 12] (by decide +kernel) (by decide +kernel)
set_option maxRecDepth 20000 in
theorem gX5_shift_X5_isPlace : GoodIn wsX5_shift (va_wsS RX5 165 yX5_isPlace wsX5_isPlace) := goodIn_app (goodIn_of _ (by decide +kernel)) ggX5_shift_X5_isPlace
set_option maxRecDepth 20000 in
theorem ggX5_shift_X5_pair : GoodIn wsX5_shift wsX5_pair := goodIn_r _ [18] (by decide +kernel) (by decide +kernel)
set_option maxRecDepth 20000 in
theorem gX5_shift_X5_pair : GoodIn wsX5_shift (va_wsS RX5 169 yX5_pair wsX5_pair) := goodIn_app (goodIn_of _ (by decide +kernel)) ggX5_shift_X5_pair
set_option maxRecDepth 20000 in
theorem ggX5_shift_X0_moveCorner : GoodIn wsX5_shift wsX0_moveCorner := goodIn_r _ [23, 24, 25, 37, 38, 39, 40, 41, 42, 43, 44, 45, 46] (by decide +kernel) (by decide +kernel)
set_option maxRecDepth 20000 in
theorem gX5_shift_X0_moveCorner : GoodIn wsX5_shift (wsV RX5 173 RX0 yX0_moveCorner wsX0_moveCorner) := goodIn_app (goodIn_of _ (by decide +kernel)) ggX5_shift_X0_moveCorner
theorem dX5_shift_0 : decode cX5_shift 0 = .ok (.aload_n 0, 1) := by decide +kernel
theorem dX5_shift_1 : decode cX5_shift 1 = .ok (.iload_n 1, 1) := by decide +kernel
theorem dX5_shift_2 : decode cX5_shift 2 = .ok (.invokevirtual 123, 3) := by decide +kernel
theorem dX5_shift_5 : decode cX5_shift 5 = .ok (.ifCond .eq 11, 3) := by decide +kernel
theorem dX5_shift_8 : decode cX5_shift 8 = .ok (.iload_n 2, 1) := by decide +kernel
theorem dX5_shift_9 : decode cX5_shift 9 = .ok (.iload_n 3, 1) := by decide +kernel
theorem dX5_shift_10 : decode cX5_shift 10 = .ok (.invokestatic 165, 3) := by decide +kernel
theorem dX5_shift_13 : decode cX5_shift 13 = .ok (.ifCond .ne 5, 3) := by decide +kernel
theorem dX5_shift_16 : decode cX5_shift 16 = .ok (.iconst (-1), 1) := by decide +kernel
theorem dX5_shift_17 : decode cX5_shift 17 = .ok (.ireturn, 1) := by decide +kernel
theorem dX5_shift_18 : decode cX5_shift 18 = .ok (.aload_n 0, 1) := by decide +kernel
theorem dX5_shift_19 : decode cX5_shift 19 = .ok (.getfield 10, 3) := by decide +kernel
theorem dX5_shift_22 : decode cX5_shift 22 = .ok (.getfield 127, 3) := by decide +kernel
theorem dX5_shift_25 : decode cX5_shift 25 = .ok (.iload_n 1, 1) := by decide +kernel
theorem dX5_shift_26 : decode cX5_shift 26 = .ok (.iaload, 1) := by decide +kernel
theorem dX5_shift_27 : decode cX5_shift 27 = .ok (.aload_n 0, 1) := by decide +kernel
theorem dX5_shift_28 : decode cX5_shift 28 = .ok (.getfield 10, 3) := by decide +kernel
theorem dX5_shift_31 : decode cX5_shift 31 = .ok (.getfield 130, 3) := by decide +kernel
theorem dX5_shift_34 : decode cX5_shift 34 = .ok (.iload_n 1, 1) := by decide +kernel
theorem dX5_shift_35 : decode cX5_shift 35 = .ok (.iaload, 1) := by decide +kernel
theorem dX5_shift_36 : decode cX5_shift 36 = .ok (.invokestatic 169, 3) := by decide +kernel
theorem dX5_shift_39 : decode cX5_shift 39 = .ok (.istore 4, 2) := by decide +kernel
theorem dX5_shift_41 : decode cX5_shift 41 = .ok (.aload_n 0, 1) := by decide +kernel
theorem dX5_shift_42 : decode cX5_shift 42 = .ok (.getfield 10, 3) := by decide +kernel
theorem dX5_shift_45 : decode cX5_shift 45 = .ok (.iload_n 1, 1) := by decide +kernel
theorem dX5_shift_46 : decode cX5_shift 46 = .ok (.iload_n 2, 1) := by decide +kernel
theorem dX5_shift_47 : decode cX5_shift 47 = .ok (.iload_n 3, 1) := by decide +kernel
theorem dX5_shift_48 : decode cX5_shift 48 = .ok (.invokevirtual 173, 3) := by decide +kernel
theorem dX5_shift_51 : decode cX5_shift 51 = .ok (.iload 4, 2) := by decide +kernel
theorem dX5_shift_53 : decode cX5_shift 53 = .ok (.ireturn, 1) := by decide +kernel
set_option maxRecDepth 20000 in
theorem ggX5_add_X5_refusalOfCorner : GoodIn wsX5_add wsX5_refusalOfCorner := goodIn_r _ [6, 2, 7, 8, 5, 9, 10, 11, 12, 32, 33, 34, 35, 36, 37, 38, 39, 40, 41] (by decide +kernel) (by decide +kernel)
set_option maxRecDepth 20000 in
theorem gX5_add_X5_refusalOfCorner : GoodIn wsX5_add (va_wsS RX5 177 yX5_refusalOfCorner wsX5_refusalOfCorner) := goodIn_app (goodIn_of _ (by decide +kernel)) ggX5_add_X5_refusalOfCorner
set_option maxRecDepth 20000 in
theorem ggX5_add_X0_appendCorner : GoodIn wsX5_add wsX0_appendCorner := goodIn_r _ [17, 18, 19, 20, 32, 33, 34, 35, 36, 37, 38, 39, 40, 41] (by decide +kernel) (by decide +kernel)
set_option maxRecDepth 20000 in
theorem gX5_add_X0_appendCorner : GoodIn wsX5_add (wsV RX5 181 RX0 yX0_appendCorner wsX0_appendCorner) := goodIn_app (goodIn_of _ (by decide +kernel)) ggX5_add_X0_appendCorner
theorem dX5_add_0 : decode cX5_add 0 = .ok (.aload_n 0, 1) := by decide +kernel
theorem dX5_add_1 : decode cX5_add 1 = .ok (.getfield 10, 3) := by decide +kernel
theorem dX5_add_4 : decode cX5_add 4 = .ok (.iload_n 1, 1) := by decide +kernel
theorem dX5_add_5 : decode cX5_add 5 = .ok (.iload_n 2, 1) := by decide +kernel
theorem dX5_add_6 : decode cX5_add 6 = .ok (.invokestatic 177, 3) := by decide +kernel
theorem dX5_add_9 : decode cX5_add 9 = .ok (.istore_n 3, 1) := by decide +kernel
theorem dX5_add_10 : decode cX5_add 10 = .ok (.iload_n 3, 1) := by decide +kernel
theorem dX5_add_11 : decode cX5_add 11 = .ok (.ifCond .eq 5, 3) := by decide +kernel
theorem dX5_add_14 : decode cX5_add 14 = .ok (.iload_n 3, 1) := by decide +kernel
theorem dX5_add_15 : decode cX5_add 15 = .ok (.ireturn, 1) := by decide +kernel
theorem dX5_add_16 : decode cX5_add 16 = .ok (.aload_n 0, 1) := by decide +kernel
theorem dX5_add_17 : decode cX5_add 17 = .ok (.getfield 10, 3) := by decide +kernel
theorem dX5_add_20 : decode cX5_add 20 = .ok (.iload_n 1, 1) := by decide +kernel
theorem dX5_add_21 : decode cX5_add 21 = .ok (.iload_n 2, 1) := by decide +kernel
theorem dX5_add_22 : decode cX5_add 22 = .ok (.invokevirtual 181, 3) := by decide +kernel
theorem dX5_add_25 : decode cX5_add 25 = .ok (.aload_n 0, 1) := by decide +kernel
theorem dX5_add_26 : decode cX5_add 26 = .ok (.getfield 10, 3) := by decide +kernel
theorem dX5_add_29 : decode cX5_add 29 = .ok (.getfield 99, 3) := by decide +kernel
theorem dX5_add_32 : decode cX5_add 32 = .ok (.ireturn, 1) := by decide +kernel
set_option maxRecDepth 20000 in
theorem ggX5_drop_X5_within : GoodIn wsX5_drop wsX5_within := goodIn_r _ [6] (by decide +kernel) (by decide +kernel)
set_option maxRecDepth 20000 in
theorem gX5_drop_X5_within : GoodIn wsX5_drop (va_wsS RX5 62 yX5_within wsX5_within) := goodIn_app (goodIn_of _ (by decide +kernel)) ggX5_drop_X5_within
theorem dX5_drop_0 : decode cX5_drop 0 = .ok (.iload_n 1, 1) := by decide +kernel
theorem dX5_drop_1 : decode cX5_drop 1 = .ok (.iconst 0, 1) := by decide +kernel
theorem dX5_drop_2 : decode cX5_drop 2 = .ok (.aload_n 0, 1) := by decide +kernel
theorem dX5_drop_3 : decode cX5_drop 3 = .ok (.getfield 10, 3) := by decide +kernel
theorem dX5_drop_6 : decode cX5_drop 6 = .ok (.getfield 99, 3) := by decide +kernel
theorem dX5_drop_9 : decode cX5_drop 9 = .ok (.invokestatic 62, 3) := by decide +kernel
theorem dX5_drop_12 : decode cX5_drop 12 = .ok (.ifCond .ne 5, 3) := by decide +kernel
theorem dX5_drop_15 : decode cX5_drop 15 = .ok (.iconst (-1), 1) := by decide +kernel
theorem dX5_drop_16 : decode cX5_drop 16 = .ok (.ireturn, 1) := by decide +kernel
theorem dX5_drop_17 : decode cX5_drop 17 = .ok (.aload_n 0, 1) := by decide +kernel
theorem dX5_drop_18 : decode cX5_drop 18 = .ok (.getfield 10, 3) := by decide +kernel
theorem dX5_drop_21 : decode cX5_drop 21 = .ok (.getfield 99, 3) := by decide +kernel
theorem dX5_drop_24 : decode cX5_drop 24 = .ok (.istore_n 2, 1) := by decide +kernel
theorem dX5_drop_25 : decode cX5_drop 25 = .ok (.aload_n 0, 1) := by decide +kernel
theorem dX5_drop_26 : decode cX5_drop 26 = .ok (.getfield 10, 3) := by decide +kernel
theorem dX5_drop_29 : decode cX5_drop 29 = .ok (.iload_n 1, 1) := by decide +kernel
theorem dX5_drop_30 : decode cX5_drop 30 = .ok (.putfield 99, 3) := by decide +kernel
theorem dX5_drop_33 : decode cX5_drop 33 = .ok (.iload_n 2, 1) := by decide +kernel
theorem dX5_drop_34 : decode cX5_drop 34 = .ok (.ireturn, 1) := by decide +kernel
set_option maxRecDepth 20000 in
theorem ggX5_pole_X5_isPlace : GoodIn wsX5_pole wsX5_isPlace := goodIn_r _ [7, 8, 9, 6, 10] (by decide +kernel) (by decide +kernel)
set_option maxRecDepth 20000 in
theorem gX5_pole_X5_isPlace : GoodIn wsX5_pole (va_wsS RX5 165 yX5_isPlace wsX5_isPlace) := goodIn_app (goodIn_of _ (by decide +kernel)) ggX5_pole_X5_isPlace
set_option maxRecDepth 20000 in
theorem ggX5_pole_X5_pair : GoodIn wsX5_pole wsX5_pair := goodIn_r _ [13] (by decide +kernel) (by decide +kernel)
set_option maxRecDepth 20000 in
theorem gX5_pole_X5_pair : GoodIn wsX5_pole (va_wsS RX5 169 yX5_pair wsX5_pair) := goodIn_app (goodIn_of _ (by decide +kernel)) ggX5_pole_X5_pair
set_option maxRecDepth 20000 in
theorem ggX5_pole_X0_movePole : GoodIn wsX5_pole wsX0_movePole := goodIn_r _ [18, 19, 20, 32, 33, 34, 35, 36, 37, 38, 39, 40, 41] (by decide +kernel) (by decide +kernel)
set_option maxRecDepth 20000 in
theorem gX5_pole_X0_movePole : GoodIn wsX5_pole (wsV RX5 184 RX0 yX0_movePole wsX0_movePole) := goodIn_app (goodIn_of _ (by decide +kernel)) ggX5_pole_X0_movePole
theorem dX5_pole_0 : decode cX5_pole 0 = .ok (.iload_n 1, 1) := by decide +kernel
theorem dX5_pole_1 : decode cX5_pole 1 = .ok (.iload_n 2, 1) := by decide +kernel
theorem dX5_pole_2 : decode cX5_pole 2 = .ok (.invokestatic 165, 3) := by decide +kernel
theorem dX5_pole_5 : decode cX5_pole 5 = .ok (.ifCond .ne 5, 3) := by decide +kernel
theorem dX5_pole_8 : decode cX5_pole 8 = .ok (.iconst (-1), 1) := by decide +kernel
theorem dX5_pole_9 : decode cX5_pole 9 = .ok (.ireturn, 1) := by decide +kernel
theorem dX5_pole_10 : decode cX5_pole 10 = .ok (.aload_n 0, 1) := by decide +kernel
theorem dX5_pole_11 : decode cX5_pole 11 = .ok (.getfield 10, 3) := by decide +kernel
theorem dX5_pole_14 : decode cX5_pole 14 = .ok (.getfield 117, 3) := by decide +kernel
theorem dX5_pole_17 : decode cX5_pole 17 = .ok (.aload_n 0, 1) := by decide +kernel
theorem dX5_pole_18 : decode cX5_pole 18 = .ok (.getfield 10, 3) := by decide +kernel
theorem dX5_pole_21 : decode cX5_pole 21 = .ok (.getfield 120, 3) := by decide +kernel
theorem dX5_pole_24 : decode cX5_pole 24 = .ok (.invokestatic 169, 3) := by decide +kernel
theorem dX5_pole_27 : decode cX5_pole 27 = .ok (.istore_n 3, 1) := by decide +kernel
theorem dX5_pole_28 : decode cX5_pole 28 = .ok (.aload_n 0, 1) := by decide +kernel
theorem dX5_pole_29 : decode cX5_pole 29 = .ok (.getfield 10, 3) := by decide +kernel
theorem dX5_pole_32 : decode cX5_pole 32 = .ok (.iload_n 1, 1) := by decide +kernel
theorem dX5_pole_33 : decode cX5_pole 33 = .ok (.iload_n 2, 1) := by decide +kernel
theorem dX5_pole_34 : decode cX5_pole 34 = .ok (.invokevirtual 184, 3) := by decide +kernel
theorem dX5_pole_37 : decode cX5_pole 37 = .ok (.iload_n 3, 1) := by decide +kernel
theorem dX5_pole_38 : decode cX5_pole 38 = .ok (.ireturn, 1) := by decide +kernel
set_option maxRecDepth 20000 in
theorem ggX5_trace_X5_within : GoodIn wsX5_trace wsX5_within := goodIn_r _ [6] (by decide +kernel) (by decide +kernel)
set_option maxRecDepth 20000 in
theorem gX5_trace_X5_within : GoodIn wsX5_trace (va_wsS RX5 62 yX5_within wsX5_within) := goodIn_app (goodIn_of _ (by decide +kernel)) ggX5_trace_X5_within
set_option maxRecDepth 20000 in
theorem ggX5_trace_X0_sweepAhead : GoodIn wsX5_trace wsX0_sweepAhead := goodIn_r _ [11, 12, 13, 14, 10, 15, 16, 17, 18, 19, 20, 21, 22, 23, 24, 25, 60, 61, 62, 63, 64, 65, 66, 67, 68, 69] (by decide +kernel) (by decide +kernel)
set_option maxRecDepth 20000 in
theorem gX5_trace_X0_sweepAhead : GoodIn wsX5_trace (wsV RX5 187 RX0 yX0_sweepAhead wsX0_sweepAhead) := goodIn_app (goodIn_of _ (by decide +kernel)) ggX5_trace_X0_sweepAhead
set_option maxRecDepth 20000 in
theorem ggX5_trace_X0_rollAll : GoodIn wsX5_trace wsX0_rollAll := goodIn_r _ [29, 30, 31, 32, 33, 34, 10, 35, 36, 37, 38, 39, 40, 41, 42, 43, 44, 45, 46, 47, 48, 60, 61, 62, 63, 64, 65, 66, 67, 68, 69] (by decide +kernel) (by decide +kernel)
set_option maxRecDepth 20000 in
theorem gX5_trace_X0_rollAll : GoodIn wsX5_trace (wsV RX5 190 RX0 yX0_rollAll wsX0_rollAll) := goodIn_app (goodIn_of _ (by decide +kernel)) ggX5_trace_X0_rollAll
theorem dX5_trace_0 : decode cX5_trace 0 = .ok (.iload_n 1, 1) := by decide +kernel
theorem dX5_trace_1 : decode cX5_trace 1 = .ok (.iconst 0, 1) := by decide +kernel
theorem dX5_trace_2 : decode cX5_trace 2 = .ok (.bipush 100, 2) := by decide +kernel
theorem dX5_trace_4 : decode cX5_trace 4 = .ok (.invokestatic 62, 3) := by decide +kernel
theorem dX5_trace_7 : decode cX5_trace 7 = .ok (.ifCond .ne 5, 3) := by decide +kernel
theorem dX5_trace_10 : decode cX5_trace 10 = .ok (.iconst (-1), 1) := by decide +kernel
theorem dX5_trace_11 : decode cX5_trace 11 = .ok (.ireturn, 1) := by decide +kernel
theorem dX5_trace_12 : decode cX5_trace 12 = .ok (.aload_n 0, 1) := by decide +kernel
theorem dX5_trace_13 : decode cX5_trace 13 = .ok (.getfield 10, 3) := by decide +kernel
theorem dX5_trace_16 : decode cX5_trace 16 = .ok (.getfield 105, 3) := by decide +kernel
theorem dX5_trace_19 : decode cX5_trace 19 = .ok (.iload_n 1, 1) := by decide +kernel
theorem dX5_trace_20 : decode cX5_trace 20 = .ok (.iadd, 1) := by decide +kernel
theorem dX5_trace_21 : decode cX5_trace 21 = .ok (.sipush 10000, 3) := by decide +kernel
theorem dX5_trace_24 : decode cX5_trace 24 = .ok (.if_icmp .lt 6, 3) := by decide +kernel
theorem dX5_trace_27 : decode cX5_trace 27 = .ok (.bipush (-3), 2) := by decide +kernel
theorem dX5_trace_29 : decode cX5_trace 29 = .ok (.ireturn, 1) := by decide +kernel
theorem dX5_trace_30 : decode cX5_trace 30 = .ok (.iconst 0, 1) := by decide +kernel
theorem dX5_trace_31 : decode cX5_trace 31 = .ok (.istore_n 2, 1) := by decide +kernel
theorem dX5_trace_32 : decode cX5_trace 32 = .ok (.iconst 0, 1) := by decide +kernel
theorem dX5_trace_33 : decode cX5_trace 33 = .ok (.istore_n 3, 1) := by decide +kernel
theorem dX5_trace_34 : decode cX5_trace 34 = .ok (.iload_n 3, 1) := by decide +kernel
theorem dX5_trace_35 : decode cX5_trace 35 = .ok (.iload_n 1, 1) := by decide +kernel
theorem dX5_trace_36 : decode cX5_trace 36 = .ok (.if_icmp .ge 40, 3) := by decide +kernel
theorem dX5_trace_39 : decode cX5_trace 39 = .ok (.iload_n 2, 1) := by decide +kernel
theorem dX5_trace_40 : decode cX5_trace 40 = .ok (.aload_n 0, 1) := by decide +kernel
theorem dX5_trace_41 : decode cX5_trace 41 = .ok (.getfield 10, 3) := by decide +kernel
theorem dX5_trace_44 : decode cX5_trace 44 = .ok (.aload_n 0, 1) := by decide +kernel
theorem dX5_trace_45 : decode cX5_trace 45 = .ok (.getfield 10, 3) := by decide +kernel
theorem dX5_trace_48 : decode cX5_trace 48 = .ok (.iconst 0, 1) := by decide +kernel
theorem dX5_trace_49 : decode cX5_trace 49 = .ok (.invokevirtual 187, 3) := by decide +kernel
theorem dX5_trace_52 : decode cX5_trace 52 = .ok (.invokevirtual 190, 3) := by decide +kernel
theorem dX5_trace_55 : decode cX5_trace 55 = .ok (.iadd, 1) := by decide +kernel
theorem dX5_trace_56 : decode cX5_trace 56 = .ok (.istore_n 2, 1) := by decide +kernel
theorem dX5_trace_57 : decode cX5_trace 57 = .ok (.aload_n 0, 1) := by decide +kernel
theorem dX5_trace_58 : decode cX5_trace 58 = .ok (.getfield 10, 3) := by decide +kernel
theorem dX5_trace_61 : decode cX5_trace 61 = .ok (.dup, 1) := by decide +kernel
theorem dX5_trace_62 : decode cX5_trace 62 = .ok (.getfield 105, 3) := by decide +kernel
theorem dX5_trace_65 : decode cX5_trace 65 = .ok (.iconst 1, 1) := by decide +kernel
theorem dX5_trace_66 : decode cX5_trace 66 = .ok (.iadd, 1) := by decide +kernel
theorem dX5_trace_67 : decode cX5_trace 67 = .ok (.putfield 105, 3) := by decide +kernel
theorem dX5_trace_70 : decode cX5_trace 70 = .ok (.iinc 3 1, 3) := by decide +kernel
theorem dX5_trace_73 : decode cX5_trace 73 = .ok (.goto (-39), 3) := by decide +kernel
theorem dX5_trace_76 : decode cX5_trace 76 = .ok (.iload_n 2, 1) := by decide +kernel
theorem dX5_trace_77 : decode cX5_trace 77 = .ok (.ireturn, 1) := by decide +kernel
set_option maxRecDepth 20000 in
theorem ggX5_runs_X5_within : GoodIn wsX5_runs wsX5_within := goodIn_r _ [4] (by decide +kernel) (by decide +kernel)
set_option maxRecDepth 20000 in
theorem gX5_runs_X5_within : GoodIn wsX5_runs (va_wsS RX5 62 yX5_within wsX5_within) := goodIn_app (goodIn_of _ (by decide +kernel)) ggX5_runs_X5_within
set_option maxRecDepth 20000 in
theorem ggX5_runs_X5_rolledAhead : GoodIn wsX5_runs wsX5_rolledAhead := goodIn_r _ [8, 9, 10, 11, 12, 13, 14, 15, 16, 17, 18, 19, 20, 21, 22, 23, 24, 25, 26, 27, 28, 29, 30, 31, 32, 33, 34, 35, 36, 37, 38, 39, 40, 41, 42, 43, 44, 45, 46, 63, 64, 65, 66, 67, 68, 69, 70, 71, 72, 73, 74, 75, 76, 77, 78, 79, 80, 81, 82, 83] (by decide +kernel) (by decide +kernel)
set_option maxRecDepth 20000 in
theorem gX5_runs_X5_rolledAhead : GoodIn wsX5_runs (wsV RX5 193 RX5 yX5_rolledAhead wsX5_rolledAhead) := goodIn_app (goodIn_of _ (by decide +kernel)) ggX5_runs_X5_rolledAhead
set_option maxRecDepth 20000 in
theorem ggX5_runs_X5_idleAhead : GoodIn wsX5_runs wsX5_idleAhead := goodIn_r _ [50, 9, 51, 10, 11, 12, 13, 14, 15, 16, 17, 18, 19, 20, 21, 22, 23, 24, 25, 26, 27, 28, 52, 53, 54, 55, 33, 38, 39, 40, 41, 42, 43, 44, 45, 46, 34, 35, 36, 37, 63, 64, 65, 66, 67, 68, 69, 70, 71, 72, 73, 74, 75, 76, 77, 78, 79, 80, 81, 82, 83] (by decide +kernel) (by decide +kernel)
set_option maxRecDepth 20000 in
theorem gX5_runs_X5_idleAhead : GoodIn wsX5_runs (wsV RX5 196 RX5 yX5_idleAhead wsX5_idleAhead) := goodIn_app (goodIn_of _ (by decide +kernel)) ggX5_runs_X5_idleAhead
set_option maxRecDepth 20000 in
theorem ggX5_runs_X5_greatestSweepAhead : GoodIn wsX5_runs wsX5_greatestSweepAhead := goodIn_r _ [59, 9, 51, 60, 61, 36, 62, 10, 11, 12, 13, 14, 15, 16, 17, 18, 19, 20, 21, 22, 23, 24, 25, 26, 27, 28, 63, 64, 65, 66, 67, 68, 69, 70, 71, 72, 73, 74, 75, 76, 77, 78, 79, 80, 81, 82, 83] (by decide +kernel) (by decide +kernel)
set_option maxRecDepth 20000 in
theorem gX5_runs_X5_greatestSweepAhead : GoodIn wsX5_runs (wsV RX5 199 RX5 yX5_greatestSweepAhead wsX5_greatestSweepAhead) := goodIn_app (goodIn_of _ (by decide +kernel)) ggX5_runs_X5_greatestSweepAhead
theorem dX5_runs_0 : decode cX5_runs 0 = .ok (.iload_n 1, 1) := by decide +kernel
theorem dX5_runs_1 : decode cX5_runs 1 = .ok (.iconst 0, 1) := by decide +kernel
theorem dX5_runs_2 : decode cX5_runs 2 = .ok (.sipush 200, 3) := by decide +kernel
theorem dX5_runs_5 : decode cX5_runs 5 = .ok (.invokestatic 62, 3) := by decide +kernel
theorem dX5_runs_8 : decode cX5_runs 8 = .ok (.ifCond .ne 5, 3) := by decide +kernel
theorem dX5_runs_11 : decode cX5_runs 11 = .ok (.iconst (-1), 1) := by decide +kernel
theorem dX5_runs_12 : decode cX5_runs 12 = .ok (.ireturn, 1) := by decide +kernel
theorem dX5_runs_13 : decode cX5_runs 13 = .ok (.iload_n 2, 1) := by decide +kernel
theorem dX5_runs_14 : decode cX5_runs 14 = .ok (.tableswitch 44 0 2 #[26, 32, 38], 26) := by decide +kernel
theorem dX5_runs_40 : decode cX5_runs 40 = .ok (.aload_n 0, 1) := by decide +kernel
theorem dX5_runs_41 : decode cX5_runs 41 = .ok (.iload_n 1, 1) := by decide +kernel
theorem dX5_runs_42 : decode cX5_runs 42 = .ok (.invokevirtual 193, 3) := by decide +kernel
theorem dX5_runs_45 : decode cX5_runs 45 = .ok (.ireturn, 1) := by decide +kernel
theorem dX5_runs_46 : decode cX5_runs 46 = .ok (.aload_n 0, 1) := by decide +kernel
theorem dX5_runs_47 : decode cX5_runs 47 = .ok (.iload_n 1, 1) := by decide +kernel
theorem dX5_runs_48 : decode cX5_runs 48 = .ok (.invokevirtual 196, 3) := by decide +kernel
theorem dX5_runs_51 : decode cX5_runs 51 = .ok (.ireturn, 1) := by decide +kernel
theorem dX5_runs_52 : decode cX5_runs 52 = .ok (.aload_n 0, 1) := by decide +kernel
theorem dX5_runs_53 : decode cX5_runs 53 = .ok (.iload_n 1, 1) := by decide +kernel
theorem dX5_runs_54 : decode cX5_runs 54 = .ok (.invokevirtual 199, 3) := by decide +kernel
theorem dX5_runs_57 : decode cX5_runs 57 = .ok (.ireturn, 1) := by decide +kernel
theorem dX5_runs_58 : decode cX5_runs 58 = .ok (.iconst (-1), 1) := by decide +kernel
theorem dX5_runs_59 : decode cX5_runs 59 = .ok (.ireturn, 1) := by decide +kernel
set_option maxRecDepth 20000 in
theorem ggX5_ahead_X5_hasWheel : GoodIn wsX5_ahead wsX5_hasWheel := goodIn_r _ [7, 2, 8, 9, 10, 6, 11, 49, 50, 51, 52, 53, 54, 55, 56, 57, 58, 59, 60, 61, 62, 63, 64, 65, 66, 67, 68, 69] (by decide +kernel) (by decide +kernel)
set_option maxRecDepth 20000 in
theorem gX5_ahead_X5_hasWheel : GoodIn wsX5_ahead (wsV RX5 136 RX5 yX5_hasWheel wsX5_hasWheel) := goodIn_app (goodIn_of _ (by decide +kernel)) ggX5_ahead_X5_hasWheel
set_option maxRecDepth 20000 in
theorem ggX5_ahead_X5_within : GoodIn wsX5_ahead wsX5_within := goodIn_r _ [11] (by decide +kernel) (by decide +kernel)
set_option maxRecDepth 20000 in
theorem gX5_ahead_X5_within : GoodIn wsX5_ahead (va_wsS RX5 62 yX5_within wsX5_within) := goodIn_app (goodIn_of _ (by decide +kernel)) ggX5_ahead_X5_within
set_option maxRecDepth 20000 in
theorem ggX5_ahead_X0_readsAhead : GoodIn wsX5_ahead wsX0_readsAhead := goodIn_r _ [16, 17, 18, 19, 20, 15, 21, 22, 23, 24, 25, 26, 27, 28, 29, 30, 31, 32, 33, 34, 35, 36, 37, 38, 39, 40, 41, 42, 43, 44, 45, 46, 47, 48, 60, 61, 62, 63, 64, 65, 66, 67, 68, 69] (by decide +kernel) (by decide +kernel)
set_option maxRecDepth 20000 in
theorem gX5_ahead_X0_readsAhead : GoodIn wsX5_ahead (wsV RX5 202 RX0 yX0_readsAhead wsX0_readsAhead) := goodIn_app (goodIn_of _ (by decide +kernel)) ggX5_ahead_X0_readsAhead
theorem dX5_ahead_0 : decode cX5_ahead 0 = .ok (.aload_n 0, 1) := by decide +kernel
theorem dX5_ahead_1 : decode cX5_ahead 1 = .ok (.iload_n 1, 1) := by decide +kernel
theorem dX5_ahead_2 : decode cX5_ahead 2 = .ok (.invokevirtual 136, 3) := by decide +kernel
theorem dX5_ahead_5 : decode cX5_ahead 5 = .ok (.ifCond .eq 14, 3) := by decide +kernel
theorem dX5_ahead_8 : decode cX5_ahead 8 = .ok (.iload_n 2, 1) := by decide +kernel
theorem dX5_ahead_9 : decode cX5_ahead 9 = .ok (.iconst 0, 1) := by decide +kernel
theorem dX5_ahead_10 : decode cX5_ahead 10 = .ok (.sipush 200, 3) := by decide +kernel
theorem dX5_ahead_13 : decode cX5_ahead 13 = .ok (.invokestatic 62, 3) := by decide +kernel
theorem dX5_ahead_16 : decode cX5_ahead 16 = .ok (.ifCond .ne 5, 3) := by decide +kernel
theorem dX5_ahead_19 : decode cX5_ahead 19 = .ok (.iconst (-1), 1) := by decide +kernel
theorem dX5_ahead_20 : decode cX5_ahead 20 = .ok (.ireturn, 1) := by decide +kernel
theorem dX5_ahead_21 : decode cX5_ahead 21 = .ok (.ldc 145, 2) := by decide +kernel
theorem dX5_ahead_23 : decode cX5_ahead 23 = .ok (.aload_n 0, 1) := by decide +kernel
theorem dX5_ahead_24 : decode cX5_ahead 24 = .ok (.getfield 10, 3) := by decide +kernel
theorem dX5_ahead_27 : decode cX5_ahead 27 = .ok (.iload_n 1, 1) := by decide +kernel
theorem dX5_ahead_28 : decode cX5_ahead 28 = .ok (.iload_n 2, 1) := by decide +kernel
theorem dX5_ahead_29 : decode cX5_ahead 29 = .ok (.invokevirtual 202, 3) := by decide +kernel
theorem dX5_ahead_32 : decode cX5_ahead 32 = .ok (.iadd, 1) := by decide +kernel
theorem dX5_ahead_33 : decode cX5_ahead 33 = .ok (.ireturn, 1) := by decide +kernel
set_option maxRecDepth 20000 in
theorem ggX5_when_X5_hasWheel : GoodIn wsX5_when wsX5_hasWheel := goodIn_r _ [8, 2, 9, 10, 11, 7, 12, 50, 51, 52, 53, 54, 55, 56, 57, 58, 59, 60, 61, 62, 63, 64, 65, 66, 67, 68, 69, 70] (by decide +kernel) (by decide +kernel)
set_option maxRecDepth 20000 in
theorem gX5_when_X5_hasWheel : GoodIn wsX5_when (wsV RX5 136 RX5 yX5_hasWheel wsX5_hasWheel) := goodIn_app (goodIn_of _ (by decide +kernel)) ggX5_when_X5_hasWheel
set_option maxRecDepth 20000 in
theorem ggX5_when_X5_isTold : GoodIn wsX5_when wsX5_isTold := goodIn_r _ [15, 16, 17, 10, 11, 7, 12] (by decide +kernel) (by decide +kernel)
set_option maxRecDepth 20000 in
theorem gX5_when_X5_isTold : GoodIn wsX5_when (va_wsS RX5 205 yX5_isTold wsX5_isTold) := goodIn_app (goodIn_of _ (by decide +kernel)) ggX5_when_X5_isTold
set_option maxRecDepth 20000 in
theorem ggX5_when_X0_sweepAhead : GoodIn wsX5_when wsX0_sweepAhead := goodIn_r _ [22, 23, 24, 25, 21, 26, 27, 28, 29, 30, 31, 32, 33, 34, 35, 36, 61, 62, 63, 64, 65, 66, 67, 68, 69, 70] (by decide +kernel) (by decide +kernel)
set_option maxRecDepth 20000 in
theorem gX5_when_X0_sweepAhead : GoodIn wsX5_when (wsV RX5 187 RX0 yX0_sweepAhead wsX0_sweepAhead) := goodIn_app (goodIn_of _ (by decide +kernel)) ggX5_when_X0_sweepAhead
set_option maxRecDepth 20000 in
theorem ggX5_when_X0_rollOf : GoodIn wsX5_when wsX0_rollOf := goodIn_r _ [40, 41, 42, 43, 44, 21, 45, 46, 47, 48, 49, 61, 62, 63, 64, 65, 66, 67, 68, 69, 70] (by decide +kernel) (by decide +kernel)
set_option maxRecDepth 20000 in
theorem gX5_when_X0_rollOf : GoodIn wsX5_when (wsV RX5 208 RX0 yX0_rollOf wsX0_rollOf) := goodIn_app (goodIn_of _ (by decide +kernel)) ggX5_when_X0_rollOf
theorem dX5_when_0 : decode cX5_when 0 = .ok (.aload_n 0, 1) := by decide +kernel
theorem dX5_when_1 : decode cX5_when 1 = .ok (.iload_n 1, 1) := by decide +kernel
theorem dX5_when_2 : decode cX5_when 2 = .ok (.invokevirtual 136, 3) := by decide +kernel
theorem dX5_when_5 : decode cX5_when 5 = .ok (.ifCond .eq 10, 3) := by decide +kernel
theorem dX5_when_8 : decode cX5_when 8 = .ok (.iload_n 2, 1) := by decide +kernel
theorem dX5_when_9 : decode cX5_when 9 = .ok (.invokestatic 205, 3) := by decide +kernel
theorem dX5_when_12 : decode cX5_when 12 = .ok (.ifCond .ne 5, 3) := by decide +kernel
theorem dX5_when_15 : decode cX5_when 15 = .ok (.iconst (-1), 1) := by decide +kernel
theorem dX5_when_16 : decode cX5_when 16 = .ok (.ireturn, 1) := by decide +kernel
theorem dX5_when_17 : decode cX5_when 17 = .ok (.iload_n 2, 1) := by decide +kernel
theorem dX5_when_18 : decode cX5_when 18 = .ok (.ldc 145, 2) := by decide +kernel
theorem dX5_when_20 : decode cX5_when 20 = .ok (.isub, 1) := by decide +kernel
theorem dX5_when_21 : decode cX5_when 21 = .ok (.istore_n 3, 1) := by decide +kernel
theorem dX5_when_22 : decode cX5_when 22 = .ok (.aload_n 0, 1) := by decide +kernel
theorem dX5_when_23 : decode cX5_when 23 = .ok (.getfield 10, 3) := by decide +kernel
theorem dX5_when_26 : decode cX5_when 26 = .ok (.getfield 146, 3) := by decide +kernel
theorem dX5_when_29 : decode cX5_when 29 = .ok (.iload_n 1, 1) := by decide +kernel
theorem dX5_when_30 : decode cX5_when 30 = .ok (.iaload, 1) := by decide +kernel
theorem dX5_when_31 : decode cX5_when 31 = .ok (.istore 4, 2) := by decide +kernel
theorem dX5_when_33 : decode cX5_when 33 = .ok (.iconst 0, 1) := by decide +kernel
theorem dX5_when_34 : decode cX5_when 34 = .ok (.istore 5, 2) := by decide +kernel
theorem dX5_when_36 : decode cX5_when 36 = .ok (.iload 5, 2) := by decide +kernel
theorem dX5_when_38 : decode cX5_when 38 = .ok (.sipush 200, 3) := by decide +kernel
theorem dX5_when_41 : decode cX5_when 41 = .ok (.if_icmp .gt 40, 3) := by decide +kernel
theorem dX5_when_44 : decode cX5_when 44 = .ok (.iload 4, 2) := by decide +kernel
theorem dX5_when_46 : decode cX5_when 46 = .ok (.iload_n 3, 1) := by decide +kernel
theorem dX5_when_47 : decode cX5_when 47 = .ok (.if_icmp .lt 6, 3) := by decide +kernel
theorem dX5_when_50 : decode cX5_when 50 = .ok (.iload 5, 2) := by decide +kernel
theorem dX5_when_52 : decode cX5_when 52 = .ok (.ireturn, 1) := by decide +kernel
theorem dX5_when_53 : decode cX5_when 53 = .ok (.iload 4, 2) := by decide +kernel
theorem dX5_when_55 : decode cX5_when 55 = .ok (.aload_n 0, 1) := by decide +kernel
theorem dX5_when_56 : decode cX5_when 56 = .ok (.getfield 10, 3) := by decide +kernel
theorem dX5_when_59 : decode cX5_when 59 = .ok (.iload_n 1, 1) := by decide +kernel
theorem dX5_when_60 : decode cX5_when 60 = .ok (.aload_n 0, 1) := by decide +kernel
theorem dX5_when_61 : decode cX5_when 61 = .ok (.getfield 10, 3) := by decide +kernel
theorem dX5_when_64 : decode cX5_when 64 = .ok (.iload 5, 2) := by decide +kernel
theorem dX5_when_66 : decode cX5_when 66 = .ok (.invokevirtual 187, 3) := by decide +kernel
theorem dX5_when_69 : decode cX5_when 69 = .ok (.invokevirtual 208, 3) := by decide +kernel
theorem dX5_when_72 : decode cX5_when 72 = .ok (.iadd, 1) := by decide +kernel
theorem dX5_when_73 : decode cX5_when 73 = .ok (.istore 4, 2) := by decide +kernel
theorem dX5_when_75 : decode cX5_when 75 = .ok (.iinc 5 1, 3) := by decide +kernel
theorem dX5_when_78 : decode cX5_when 78 = .ok (.goto (-42), 3) := by decide +kernel
theorem dX5_when_81 : decode cX5_when 81 = .ok (.bipush (-4), 2) := by decide +kernel
theorem dX5_when_83 : decode cX5_when 83 = .ok (.ireturn, 1) := by decide +kernel
set_option maxRecDepth 20000 in
theorem ggX5_best_X5_hasWheel : GoodIn wsX5_best wsX5_hasWheel := goodIn_r _ [8, 2, 9, 10, 11, 7, 12, 61, 62, 63, 64, 65, 66, 67, 68, 69, 70, 71, 72, 73, 74, 75, 76, 77, 78, 79, 80, 81] (by decide +kernel) (by decide +kernel)
set_option maxRecDepth 20000 in
theorem gX5_best_X5_hasWheel : GoodIn wsX5_best (wsV RX5 136 RX5 yX5_hasWheel wsX5_hasWheel) := goodIn_app (goodIn_of _ (by decide +kernel)) ggX5_best_X5_hasWheel
set_option maxRecDepth 20000 in
theorem ggX5_best_X5_isEither : GoodIn wsX5_best wsX5_isEither := goodIn_r _ [15, 10, 11, 7, 12] (by decide +kernel) (by decide +kernel)
set_option maxRecDepth 20000 in
theorem gX5_best_X5_isEither : GoodIn wsX5_best (va_wsS RX5 211 yX5_isEither wsX5_isEither) := goodIn_app (goodIn_of _ (by decide +kernel)) ggX5_best_X5_isEither
set_option maxRecDepth 20000 in
theorem ggX5_best_X0_copyFrom : GoodIn wsX5_best wsX0_copyFrom := goodIn_r _ [20, 21, 22, 23, 24, 25, 26, 27, 28, 29, 30, 31, 32, 33, 34, 72, 73, 74, 75, 76, 77, 78, 79, 80, 81] (by decide +kernel) (by decide +kernel)
set_option maxRecDepth 20000 in
theorem gX5_best_X0_copyFrom : GoodIn wsX5_best (wsV RX5 91 RX0 yX0_copyFrom wsX0_copyFrom) := goodIn_app (goodIn_of _ (by decide +kernel)) ggX5_best_X0_copyFrom
set_option maxRecDepth 20000 in
theorem ggX5_best_X0_movePole : GoodIn wsX5_best wsX0_movePole := goodIn_r _ [38, 32, 33, 72, 73, 74, 75, 76, 77, 78, 79, 80, 81] (by decide +kernel) (by decide +kernel)
set_option maxRecDepth 20000 in
theorem gX5_best_X0_movePole : GoodIn wsX5_best (wsV RX5 184 RX0 yX0_movePole wsX0_movePole) := goodIn_app (goodIn_of _ (by decide +kernel)) ggX5_best_X0_movePole
set_option maxRecDepth 20000 in
theorem ggX5_best_X0_errorOf : GoodIn wsX5_best wsX0_errorOf := goodIn_r _ [42, 27, 43, 44, 45, 46, 47, 48, 49, 19, 50, 21, 32, 26, 33, 51, 52, 53, 54, 28, 29, 55, 56, 57, 72, 73, 74, 75, 76, 77, 78, 79, 80, 81] (by decide +kernel) (by decide +kernel)
set_option maxRecDepth 20000 in
theorem gX5_best_X0_errorOf : GoodIn wsX5_best (wsV RX5 152 RX0 yX0_errorOf wsX0_errorOf) := goodIn_app (goodIn_of _ (by decide +kernel)) ggX5_best_X0_errorOf
set_option maxRecDepth 20000 in
theorem ggX5_best_X5_pair : GoodIn wsX5_best wsX5_pair := goodIn_r _ [60] (by decide +kernel) (by decide +kernel)
set_option maxRecDepth 20000 in
theorem gX5_best_X5_pair : GoodIn wsX5_best (va_wsS RX5 169 yX5_pair wsX5_pair) := goodIn_app (goodIn_of _ (by decide +kernel)) ggX5_best_X5_pair
theorem dX5_best_0 : decode cX5_best 0 = .ok (.aload_n 0, 1) := by decide +kernel
theorem dX5_best_1 : decode cX5_best 1 = .ok (.iload_n 1, 1) := by decide +kernel
theorem dX5_best_2 : decode cX5_best 2 = .ok (.invokevirtual 136, 3) := by decide +kernel
theorem dX5_best_5 : decode cX5_best 5 = .ok (.ifCond .eq 10, 3) := by decide +kernel
theorem dX5_best_8 : decode cX5_best 8 = .ok (.iload_n 2, 1) := by decide +kernel
theorem dX5_best_9 : decode cX5_best 9 = .ok (.invokestatic 211, 3) := by decide +kernel
theorem dX5_best_12 : decode cX5_best 12 = .ok (.ifCond .ne 5, 3) := by decide +kernel
theorem dX5_best_15 : decode cX5_best 15 = .ok (.iconst (-1), 1) := by decide +kernel
theorem dX5_best_16 : decode cX5_best 16 = .ok (.ireturn, 1) := by decide +kernel
theorem dX5_best_17 : decode cX5_best 17 = .ok (.aload_n 0, 1) := by decide +kernel
theorem dX5_best_18 : decode cX5_best 18 = .ok (.getfield 16, 3) := by decide +kernel
theorem dX5_best_21 : decode cX5_best 21 = .ok (.aload_n 0, 1) := by decide +kernel
theorem dX5_best_22 : decode cX5_best 22 = .ok (.getfield 10, 3) := by decide +kernel
theorem dX5_best_25 : decode cX5_best 25 = .ok (.invokevirtual 91, 3) := by decide +kernel
theorem dX5_best_28 : decode cX5_best 28 = .ok (.ldc 214, 2) := by decide +kernel
theorem dX5_best_30 : decode cX5_best 30 = .ok (.istore_n 3, 1) := by decide +kernel
theorem dX5_best_31 : decode cX5_best 31 = .ok (.iconst 0, 1) := by decide +kernel
theorem dX5_best_32 : decode cX5_best 32 = .ok (.istore 4, 2) := by decide +kernel
theorem dX5_best_34 : decode cX5_best 34 = .ok (.iconst 0, 1) := by decide +kernel
theorem dX5_best_35 : decode cX5_best 35 = .ok (.istore 5, 2) := by decide +kernel
theorem dX5_best_37 : decode cX5_best 37 = .ok (.iload 5, 2) := by decide +kernel
theorem dX5_best_39 : decode cX5_best 39 = .ok (.bipush 20, 2) := by decide +kernel
theorem dX5_best_41 : decode cX5_best 41 = .ok (.if_icmp .gt 64, 3) := by decide +kernel
theorem dX5_best_44 : decode cX5_best 44 = .ok (.iconst 0, 1) := by decide +kernel
theorem dX5_best_45 : decode cX5_best 45 = .ok (.istore 6, 2) := by decide +kernel
theorem dX5_best_47 : decode cX5_best 47 = .ok (.iload 6, 2) := by decide +kernel
theorem dX5_best_49 : decode cX5_best 49 = .ok (.bipush 20, 2) := by decide +kernel
theorem dX5_best_51 : decode cX5_best 51 = .ok (.if_icmp .gt 48, 3) := by decide +kernel
theorem dX5_best_54 : decode cX5_best 54 = .ok (.aload_n 0, 1) := by decide +kernel
theorem dX5_best_55 : decode cX5_best 55 = .ok (.getfield 16, 3) := by decide +kernel
theorem dX5_best_58 : decode cX5_best 58 = .ok (.iload 5, 2) := by decide +kernel
theorem dX5_best_60 : decode cX5_best 60 = .ok (.iload 6, 2) := by decide +kernel
theorem dX5_best_62 : decode cX5_best 62 = .ok (.invokevirtual 184, 3) := by decide +kernel
theorem dX5_best_65 : decode cX5_best 65 = .ok (.aload_n 0, 1) := by decide +kernel
theorem dX5_best_66 : decode cX5_best 66 = .ok (.getfield 16, 3) := by decide +kernel
theorem dX5_best_69 : decode cX5_best 69 = .ok (.iload_n 1, 1) := by decide +kernel
theorem dX5_best_70 : decode cX5_best 70 = .ok (.invokevirtual 152, 3) := by decide +kernel
theorem dX5_best_73 : decode cX5_best 73 = .ok (.istore 7, 2) := by decide +kernel
theorem dX5_best_75 : decode cX5_best 75 = .ok (.iload 7, 2) := by decide +kernel
theorem dX5_best_77 : decode cX5_best 77 = .ok (.iload_n 3, 1) := by decide +kernel
theorem dX5_best_78 : decode cX5_best 78 = .ok (.if_icmp .ge 15, 3) := by decide +kernel
theorem dX5_best_81 : decode cX5_best 81 = .ok (.iload 7, 2) := by decide +kernel
theorem dX5_best_83 : decode cX5_best 83 = .ok (.istore_n 3, 1) := by decide +kernel
theorem dX5_best_84 : decode cX5_best 84 = .ok (.iload 5, 2) := by decide +kernel
theorem dX5_best_86 : decode cX5_best 86 = .ok (.iload 6, 2) := by decide +kernel
theorem dX5_best_88 : decode cX5_best 88 = .ok (.invokestatic 169, 3) := by decide +kernel
theorem dX5_best_91 : decode cX5_best 91 = .ok (.istore 4, 2) := by decide +kernel
theorem dX5_best_93 : decode cX5_best 93 = .ok (.iinc 6 1, 3) := by decide +kernel
theorem dX5_best_96 : decode cX5_best 96 = .ok (.goto (-49), 3) := by decide +kernel
theorem dX5_best_99 : decode cX5_best 99 = .ok (.iinc 5 1, 3) := by decide +kernel
theorem dX5_best_102 : decode cX5_best 102 = .ok (.goto (-65), 3) := by decide +kernel
theorem dX5_best_105 : decode cX5_best 105 = .ok (.iload_n 2, 1) := by decide +kernel
theorem dX5_best_106 : decode cX5_best 106 = .ok (.ifCond .ne 8, 3) := by decide +kernel
theorem dX5_best_109 : decode cX5_best 109 = .ok (.iload 4, 2) := by decide +kernel
theorem dX5_best_111 : decode cX5_best 111 = .ok (.goto 4, 3) := by decide +kernel
theorem dX5_best_114 : decode cX5_best 114 = .ok (.iload_n 3, 1) := by decide +kernel
theorem dX5_best_115 : decode cX5_best 115 = .ok (.ireturn, 1) := by decide +kernel
set_option maxRecDepth 20000 in
theorem ggX5_step_X5_hasWheel : GoodIn wsX5_step wsX5_hasWheel := goodIn_r _ [9, 2, 10, 11, 12, 8, 13, 55, 56, 57, 58, 59, 60, 61, 62, 63, 64, 65, 66, 67, 68, 69, 70, 71, 72, 73, 74, 75] (by decide +kernel) (by decide +kernel)
set_option maxRecDepth 20000 in
theorem gX5_step_X5_hasWheel : GoodIn wsX5_step (wsV RX5 136 RX5 yX5_hasWheel wsX5_hasWheel) := goodIn_app (goodIn_of _ (by decide +kernel)) ggX5_step_X5_hasWheel
set_option maxRecDepth 20000 in
theorem ggX5_step_X5_isEither : GoodIn wsX5_step wsX5_isEither := goodIn_r _ [16, 11, 12, 8, 13] (by decide +kernel) (by decide +kernel)
set_option maxRecDepth 20000 in
theorem gX5_step_X5_isEither : GoodIn wsX5_step (va_wsS RX5 211 yX5_isEither wsX5_isEither) := goodIn_app (goodIn_of _ (by decide +kernel)) ggX5_step_X5_isEither
set_option maxRecDepth 20000 in
theorem ggX5_step_X0_copyFrom : GoodIn wsX5_step wsX0_copyFrom := goodIn_r _ [21, 22, 23, 24, 25, 26, 27, 28, 29, 30, 31, 32, 33, 34, 35, 66, 67, 68, 69, 70, 71, 72, 73, 74, 75] (by decide +kernel) (by decide +kernel)
set_option maxRecDepth 20000 in
theorem gX5_step_X0_copyFrom : GoodIn wsX5_step (wsV RX5 91 RX0 yX0_copyFrom wsX0_copyFrom) := goodIn_app (goodIn_of _ (by decide +kernel)) ggX5_step_X0_copyFrom
set_option maxRecDepth 20000 in
theorem ggX5_step_X0_errorOf : GoodIn wsX5_step wsX0_errorOf := goodIn_r _ [39, 28, 40, 41, 42, 43, 44, 45, 46, 20, 47, 22, 33, 27, 34, 48, 49, 50, 51, 29, 30, 52, 53, 54, 66, 67, 68, 69, 70, 71, 72, 73, 74, 75] (by decide +kernel) (by decide +kernel)
set_option maxRecDepth 20000 in
theorem gX5_step_X0_errorOf : GoodIn wsX5_step (wsV RX5 152 RX0 yX0_errorOf wsX0_errorOf) := goodIn_app (goodIn_of _ (by decide +kernel)) ggX5_step_X0_errorOf
theorem dX5_step_0 : decode cX5_step 0 = .ok (.aload_n 0, 1) := by decide +kernel
theorem dX5_step_1 : decode cX5_step 1 = .ok (.iload_n 1, 1) := by decide +kernel
theorem dX5_step_2 : decode cX5_step 2 = .ok (.invokevirtual 136, 3) := by decide +kernel
theorem dX5_step_5 : decode cX5_step 5 = .ok (.ifCond .eq 10, 3) := by decide +kernel
theorem dX5_step_8 : decode cX5_step 8 = .ok (.iload_n 2, 1) := by decide +kernel
theorem dX5_step_9 : decode cX5_step 9 = .ok (.invokestatic 211, 3) := by decide +kernel
theorem dX5_step_12 : decode cX5_step 12 = .ok (.ifCond .ne 5, 3) := by decide +kernel
theorem dX5_step_15 : decode cX5_step 15 = .ok (.iconst (-1), 1) := by decide +kernel
theorem dX5_step_16 : decode cX5_step 16 = .ok (.ireturn, 1) := by decide +kernel
theorem dX5_step_17 : decode cX5_step 17 = .ok (.aload_n 0, 1) := by decide +kernel
theorem dX5_step_18 : decode cX5_step 18 = .ok (.getfield 16, 3) := by decide +kernel
theorem dX5_step_21 : decode cX5_step 21 = .ok (.aload_n 0, 1) := by decide +kernel
theorem dX5_step_22 : decode cX5_step 22 = .ok (.getfield 10, 3) := by decide +kernel
theorem dX5_step_25 : decode cX5_step 25 = .ok (.invokevirtual 91, 3) := by decide +kernel
theorem dX5_step_28 : decode cX5_step 28 = .ok (.ldc 214, 2) := by decide +kernel
theorem dX5_step_30 : decode cX5_step 30 = .ok (.istore_n 3, 1) := by decide +kernel
theorem dX5_step_31 : decode cX5_step 31 = .ok (.iconst 0, 1) := by decide +kernel
theorem dX5_step_32 : decode cX5_step 32 = .ok (.istore 4, 2) := by decide +kernel
theorem dX5_step_34 : decode cX5_step 34 = .ok (.iconst 1, 1) := by decide +kernel
theorem dX5_step_35 : decode cX5_step 35 = .ok (.istore 5, 2) := by decide +kernel
theorem dX5_step_37 : decode cX5_step 37 = .ok (.iload 5, 2) := by decide +kernel
theorem dX5_step_39 : decode cX5_step 39 = .ok (.bipush 9, 2) := by decide +kernel
theorem dX5_step_41 : decode cX5_step 41 = .ok (.if_icmp .gt 43, 3) := by decide +kernel
theorem dX5_step_44 : decode cX5_step 44 = .ok (.aload_n 0, 1) := by decide +kernel
theorem dX5_step_45 : decode cX5_step 45 = .ok (.getfield 16, 3) := by decide +kernel
theorem dX5_step_48 : decode cX5_step 48 = .ok (.getfield 142, 3) := by decide +kernel
theorem dX5_step_51 : decode cX5_step 51 = .ok (.iload_n 1, 1) := by decide +kernel
theorem dX5_step_52 : decode cX5_step 52 = .ok (.iload 5, 2) := by decide +kernel
theorem dX5_step_54 : decode cX5_step 54 = .ok (.iastore, 1) := by decide +kernel
theorem dX5_step_55 : decode cX5_step 55 = .ok (.aload_n 0, 1) := by decide +kernel
theorem dX5_step_56 : decode cX5_step 56 = .ok (.getfield 16, 3) := by decide +kernel
theorem dX5_step_59 : decode cX5_step 59 = .ok (.iload_n 1, 1) := by decide +kernel
theorem dX5_step_60 : decode cX5_step 60 = .ok (.invokevirtual 152, 3) := by decide +kernel
theorem dX5_step_63 : decode cX5_step 63 = .ok (.istore 6, 2) := by decide +kernel
theorem dX5_step_65 : decode cX5_step 65 = .ok (.iload 6, 2) := by decide +kernel
theorem dX5_step_67 : decode cX5_step 67 = .ok (.iload_n 3, 1) := by decide +kernel
theorem dX5_step_68 : decode cX5_step 68 = .ok (.if_icmp .gt 10, 3) := by decide +kernel
theorem dX5_step_71 : decode cX5_step 71 = .ok (.iload 6, 2) := by decide +kernel
theorem dX5_step_73 : decode cX5_step 73 = .ok (.istore_n 3, 1) := by decide +kernel
theorem dX5_step_74 : decode cX5_step 74 = .ok (.iload 5, 2) := by decide +kernel
theorem dX5_step_76 : decode cX5_step 76 = .ok (.istore 4, 2) := by decide +kernel
theorem dX5_step_78 : decode cX5_step 78 = .ok (.iinc 5 1, 3) := by decide +kernel
theorem dX5_step_81 : decode cX5_step 81 = .ok (.goto (-44), 3) := by decide +kernel
theorem dX5_step_84 : decode cX5_step 84 = .ok (.iload_n 2, 1) := by decide +kernel
theorem dX5_step_85 : decode cX5_step 85 = .ok (.ifCond .ne 8, 3) := by decide +kernel
theorem dX5_step_88 : decode cX5_step 88 = .ok (.iload 4, 2) := by decide +kernel
theorem dX5_step_90 : decode cX5_step 90 = .ok (.goto 4, 3) := by decide +kernel
theorem dX5_step_93 : decode cX5_step 93 = .ok (.iload_n 3, 1) := by decide +kernel
theorem dX5_step_94 : decode cX5_step 94 = .ok (.ireturn, 1) := by decide +kernel
set_option maxRecDepth 20000 in
theorem ggX5_kind_X5_hasWheel : GoodIn wsX5_kind wsX5_hasWheel := goodIn_r _ [9, 2, 10, 11, 12, 8, 13, 55, 56, 57, 58, 59, 60, 61, 62, 63, 64, 65, 66, 67, 68, 69, 70, 71, 72, 73, 74, 75] (by decide +kernel) (by decide +kernel)
set_option maxRecDepth 20000 in
theorem gX5_kind_X5_hasWheel : GoodIn wsX5_kind (wsV RX5 136 RX5 yX5_hasWheel wsX5_hasWheel) := goodIn_app (goodIn_of _ (by decide +kernel)) ggX5_kind_X5_hasWheel
set_option maxRecDepth 20000 in
theorem ggX5_kind_X5_isEither : GoodIn wsX5_kind wsX5_isEither := goodIn_r _ [16, 11, 12, 8, 13] (by decide +kernel) (by decide +kernel)
set_option maxRecDepth 20000 in
theorem gX5_kind_X5_isEither : GoodIn wsX5_kind (va_wsS RX5 211 yX5_isEither wsX5_isEither) := goodIn_app (goodIn_of _ (by decide +kernel)) ggX5_kind_X5_isEither
set_option maxRecDepth 20000 in
theorem ggX5_kind_X0_copyFrom : GoodIn wsX5_kind wsX0_copyFrom := goodIn_r _ [21, 22, 23, 24, 25, 26, 27, 28, 29, 30, 31, 32, 33, 34, 35, 66, 67, 68, 69, 70, 71, 72, 73, 74, 75] (by decide +kernel) (by decide +kernel)
set_option maxRecDepth 20000 in
theorem gX5_kind_X0_copyFrom : GoodIn wsX5_kind (wsV RX5 91 RX0 yX0_copyFrom wsX0_copyFrom) := goodIn_app (goodIn_of _ (by decide +kernel)) ggX5_kind_X0_copyFrom
set_option maxRecDepth 20000 in
theorem ggX5_kind_X0_errorOf : GoodIn wsX5_kind wsX0_errorOf := goodIn_r _ [39, 28, 40, 41, 42, 43, 44, 45, 46, 20, 47, 22, 33, 27, 34, 48, 49, 50, 51, 29, 30, 52, 53, 54, 66, 67, 68, 69, 70, 71, 72, 73, 74, 75] (by decide +kernel) (by decide +kernel)
set_option maxRecDepth 20000 in
theorem gX5_kind_X0_errorOf : GoodIn wsX5_kind (wsV RX5 152 RX0 yX0_errorOf wsX0_errorOf) := goodIn_app (goodIn_of _ (by decide +kernel)) ggX5_kind_X0_errorOf
theorem dX5_kind_0 : decode cX5_kind 0 = .ok (.aload_n 0, 1) := by decide +kernel
theorem dX5_kind_1 : decode cX5_kind 1 = .ok (.iload_n 1, 1) := by decide +kernel
theorem dX5_kind_2 : decode cX5_kind 2 = .ok (.invokevirtual 136, 3) := by decide +kernel
theorem dX5_kind_5 : decode cX5_kind 5 = .ok (.ifCond .eq 10, 3) := by decide +kernel
theorem dX5_kind_8 : decode cX5_kind 8 = .ok (.iload_n 2, 1) := by decide +kernel
theorem dX5_kind_9 : decode cX5_kind 9 = .ok (.invokestatic 211, 3) := by decide +kernel
theorem dX5_kind_12 : decode cX5_kind 12 = .ok (.ifCond .ne 5, 3) := by decide +kernel
theorem dX5_kind_15 : decode cX5_kind 15 = .ok (.iconst (-1), 1) := by decide +kernel
theorem dX5_kind_16 : decode cX5_kind 16 = .ok (.ireturn, 1) := by decide +kernel
theorem dX5_kind_17 : decode cX5_kind 17 = .ok (.aload_n 0, 1) := by decide +kernel
theorem dX5_kind_18 : decode cX5_kind 18 = .ok (.getfield 16, 3) := by decide +kernel
theorem dX5_kind_21 : decode cX5_kind 21 = .ok (.aload_n 0, 1) := by decide +kernel
theorem dX5_kind_22 : decode cX5_kind 22 = .ok (.getfield 10, 3) := by decide +kernel
theorem dX5_kind_25 : decode cX5_kind 25 = .ok (.invokevirtual 91, 3) := by decide +kernel
theorem dX5_kind_28 : decode cX5_kind 28 = .ok (.ldc 214, 2) := by decide +kernel
theorem dX5_kind_30 : decode cX5_kind 30 = .ok (.istore_n 3, 1) := by decide +kernel
theorem dX5_kind_31 : decode cX5_kind 31 = .ok (.iconst 0, 1) := by decide +kernel
theorem dX5_kind_32 : decode cX5_kind 32 = .ok (.istore 4, 2) := by decide +kernel
theorem dX5_kind_34 : decode cX5_kind 34 = .ok (.iconst 0, 1) := by decide +kernel
theorem dX5_kind_35 : decode cX5_kind 35 = .ok (.istore 5, 2) := by decide +kernel
theorem dX5_kind_37 : decode cX5_kind 37 = .ok (.iload 5, 2) := by decide +kernel
theorem dX5_kind_39 : decode cX5_kind 39 = .ok (.iconst 4, 1) := by decide +kernel
theorem dX5_kind_40 : decode cX5_kind 40 = .ok (.if_icmp .ge 43, 3) := by decide +kernel
theorem dX5_kind_43 : decode cX5_kind 43 = .ok (.aload_n 0, 1) := by decide +kernel
theorem dX5_kind_44 : decode cX5_kind 44 = .ok (.getfield 16, 3) := by decide +kernel
theorem dX5_kind_47 : decode cX5_kind 47 = .ok (.getfield 139, 3) := by decide +kernel
theorem dX5_kind_50 : decode cX5_kind 50 = .ok (.iload_n 1, 1) := by decide +kernel
theorem dX5_kind_51 : decode cX5_kind 51 = .ok (.iload 5, 2) := by decide +kernel
theorem dX5_kind_53 : decode cX5_kind 53 = .ok (.iastore, 1) := by decide +kernel
theorem dX5_kind_54 : decode cX5_kind 54 = .ok (.aload_n 0, 1) := by decide +kernel
theorem dX5_kind_55 : decode cX5_kind 55 = .ok (.getfield 16, 3) := by decide +kernel
theorem dX5_kind_58 : decode cX5_kind 58 = .ok (.iload_n 1, 1) := by decide +kernel
theorem dX5_kind_59 : decode cX5_kind 59 = .ok (.invokevirtual 152, 3) := by decide +kernel
theorem dX5_kind_62 : decode cX5_kind 62 = .ok (.istore 6, 2) := by decide +kernel
theorem dX5_kind_64 : decode cX5_kind 64 = .ok (.iload 6, 2) := by decide +kernel
theorem dX5_kind_66 : decode cX5_kind 66 = .ok (.iload_n 3, 1) := by decide +kernel
theorem dX5_kind_67 : decode cX5_kind 67 = .ok (.if_icmp .ge 10, 3) := by decide +kernel
theorem dX5_kind_70 : decode cX5_kind 70 = .ok (.iload 6, 2) := by decide +kernel
theorem dX5_kind_72 : decode cX5_kind 72 = .ok (.istore_n 3, 1) := by decide +kernel
theorem dX5_kind_73 : decode cX5_kind 73 = .ok (.iload 5, 2) := by decide +kernel
theorem dX5_kind_75 : decode cX5_kind 75 = .ok (.istore 4, 2) := by decide +kernel
theorem dX5_kind_77 : decode cX5_kind 77 = .ok (.iinc 5 1, 3) := by decide +kernel
theorem dX5_kind_80 : decode cX5_kind 80 = .ok (.goto (-43), 3) := by decide +kernel
theorem dX5_kind_83 : decode cX5_kind 83 = .ok (.iload_n 2, 1) := by decide +kernel
theorem dX5_kind_84 : decode cX5_kind 84 = .ok (.ifCond .ne 8, 3) := by decide +kernel
theorem dX5_kind_87 : decode cX5_kind 87 = .ok (.iload 4, 2) := by decide +kernel
theorem dX5_kind_89 : decode cX5_kind 89 = .ok (.goto 4, 3) := by decide +kernel
theorem dX5_kind_92 : decode cX5_kind 92 = .ok (.iload_n 3, 1) := by decide +kernel
theorem dX5_kind_93 : decode cX5_kind 93 = .ok (.ireturn, 1) := by decide +kernel
set_option maxRecDepth 20000 in
theorem ggX5_place_X5_hasCorner : GoodIn wsX5_place wsX5_hasCorner := goodIn_r _ [7, 2, 8, 9, 10, 6, 11, 57, 58, 59, 60, 61, 62, 63, 64, 65, 66, 67, 68, 69, 70, 71, 72, 73, 74, 75, 76, 77] (by decide +kernel) (by decide +kernel)
set_option maxRecDepth 20000 in
theorem gX5_place_X5_hasCorner : GoodIn wsX5_place (wsV RX5 123 RX5 yX5_hasCorner wsX5_hasCorner) := goodIn_app (goodIn_of _ (by decide +kernel)) ggX5_place_X5_hasCorner
set_option maxRecDepth 20000 in
theorem ggX5_place_X5_isEither : GoodIn wsX5_place wsX5_isEither := goodIn_r _ [14, 9, 10, 6, 11] (by decide +kernel) (by decide +kernel)
set_option maxRecDepth 20000 in
theorem gX5_place_X5_isEither : GoodIn wsX5_place (va_wsS RX5 211 yX5_isEither wsX5_isEither) := goodIn_app (goodIn_of _ (by decide +kernel)) ggX5_place_X5_isEither
set_option maxRecDepth 20000 in
theorem ggX5_place_X0_copyFrom : GoodIn wsX5_place wsX0_copyFrom := goodIn_r _ [19, 20, 21, 22, 23, 24, 25, 26, 27, 28, 29, 30, 31, 32, 33, 68, 69, 70, 71, 72, 73, 74, 75, 76, 77] (by decide +kernel) (by decide +kernel)
set_option maxRecDepth 20000 in
theorem gX5_place_X0_copyFrom : GoodIn wsX5_place (wsV RX5 91 RX0 yX0_copyFrom wsX0_copyFrom) := goodIn_app (goodIn_of _ (by decide +kernel)) ggX5_place_X0_copyFrom
set_option maxRecDepth 20000 in
theorem ggX5_place_X0_moveCorner : GoodIn wsX5_place wsX0_moveCorner := goodIn_r _ [37, 20, 25, 68, 69, 70, 71, 72, 73, 74, 75, 76, 77] (by decide +kernel) (by decide +kernel)
set_option maxRecDepth 20000 in
theorem gX5_place_X0_moveCorner : GoodIn wsX5_place (wsV RX5 173 RX0 yX0_moveCorner wsX0_moveCorner) := goodIn_app (goodIn_of _ (by decide +kernel)) ggX5_place_X0_moveCorner
set_option maxRecDepth 20000 in
theorem ggX5_place_X0_areaUnsigned : GoodIn wsX5_place wsX0_areaUnsigned := goodIn_r _ [41, 42, 43, 44, 45, 46, 47, 48, 18, 49, 26, 50, 51, 52, 53, 20, 31, 25, 32, 68, 69, 70, 71, 72, 73, 74, 75, 76, 77] (by decide +kernel) (by decide +kernel)
set_option maxRecDepth 20000 in
theorem gX5_place_X0_areaUnsigned : GoodIn wsX5_place (wsV RX5 215 RX0 yX0_areaUnsigned wsX0_areaUnsigned) := goodIn_app (goodIn_of _ (by decide +kernel)) ggX5_place_X0_areaUnsigned
set_option maxRecDepth 20000 in
theorem ggX5_place_X5_pair : GoodIn wsX5_place wsX5_pair := goodIn_r _ [56] (by decide +kernel) (by decide +kernel)
set_option maxRecDepth 20000 in
theorem gX5_place_X5_pair : GoodIn wsX5_place (va_wsS RX5 169 yX5_pair wsX5_pair) := goodIn_app (goodIn_of _ (by decide +kernel)) ggX5_place_X5_pair
theorem dX5_place_0 : decode cX5_place 0 = .ok (.aload_n 0, 1) := by decide +kernel
theorem dX5_place_1 : decode cX5_place 1 = .ok (.iload_n 1, 1) := by decide +kernel
theorem dX5_place_2 : decode cX5_place 2 = .ok (.invokevirtual 123, 3) := by decide +kernel
theorem dX5_place_5 : decode cX5_place 5 = .ok (.ifCond .eq 10, 3) := by decide +kernel
theorem dX5_place_8 : decode cX5_place 8 = .ok (.iload_n 2, 1) := by decide +kernel
theorem dX5_place_9 : decode cX5_place 9 = .ok (.invokestatic 211, 3) := by decide +kernel
theorem dX5_place_12 : decode cX5_place 12 = .ok (.ifCond .ne 5, 3) := by decide +kernel
theorem dX5_place_15 : decode cX5_place 15 = .ok (.iconst (-1), 1) := by decide +kernel
theorem dX5_place_16 : decode cX5_place 16 = .ok (.ireturn, 1) := by decide +kernel
theorem dX5_place_17 : decode cX5_place 17 = .ok (.aload_n 0, 1) := by decide +kernel
theorem dX5_place_18 : decode cX5_place 18 = .ok (.getfield 16, 3) := by decide +kernel
theorem dX5_place_21 : decode cX5_place 21 = .ok (.aload_n 0, 1) := by decide +kernel
theorem dX5_place_22 : decode cX5_place 22 = .ok (.getfield 10, 3) := by decide +kernel
theorem dX5_place_25 : decode cX5_place 25 = .ok (.invokevirtual 91, 3) := by decide +kernel
theorem dX5_place_28 : decode cX5_place 28 = .ok (.iconst (-1), 1) := by decide +kernel
theorem dX5_place_29 : decode cX5_place 29 = .ok (.istore_n 3, 1) := by decide +kernel
theorem dX5_place_30 : decode cX5_place 30 = .ok (.iconst 0, 1) := by decide +kernel
theorem dX5_place_31 : decode cX5_place 31 = .ok (.istore 4, 2) := by decide +kernel
theorem dX5_place_33 : decode cX5_place 33 = .ok (.iconst 0, 1) := by decide +kernel
theorem dX5_place_34 : decode cX5_place 34 = .ok (.istore 5, 2) := by decide +kernel
theorem dX5_place_36 : decode cX5_place 36 = .ok (.iload 5, 2) := by decide +kernel
theorem dX5_place_38 : decode cX5_place 38 = .ok (.bipush 20, 2) := by decide +kernel
theorem dX5_place_40 : decode cX5_place 40 = .ok (.if_icmp .gt 64, 3) := by decide +kernel
theorem dX5_place_43 : decode cX5_place 43 = .ok (.iconst 0, 1) := by decide +kernel
theorem dX5_place_44 : decode cX5_place 44 = .ok (.istore 6, 2) := by decide +kernel
theorem dX5_place_46 : decode cX5_place 46 = .ok (.iload 6, 2) := by decide +kernel
theorem dX5_place_48 : decode cX5_place 48 = .ok (.bipush 20, 2) := by decide +kernel
theorem dX5_place_50 : decode cX5_place 50 = .ok (.if_icmp .gt 48, 3) := by decide +kernel
theorem dX5_place_53 : decode cX5_place 53 = .ok (.aload_n 0, 1) := by decide +kernel
theorem dX5_place_54 : decode cX5_place 54 = .ok (.getfield 16, 3) := by decide +kernel
theorem dX5_place_57 : decode cX5_place 57 = .ok (.iload_n 1, 1) := by decide +kernel
theorem dX5_place_58 : decode cX5_place 58 = .ok (.iload 5, 2) := by decide +kernel
theorem dX5_place_60 : decode cX5_place 60 = .ok (.iload 6, 2) := by decide +kernel
theorem dX5_place_62 : decode cX5_place 62 = .ok (.invokevirtual 173, 3) := by decide +kernel
theorem dX5_place_65 : decode cX5_place 65 = .ok (.aload_n 0, 1) := by decide +kernel
theorem dX5_place_66 : decode cX5_place 66 = .ok (.getfield 16, 3) := by decide +kernel
theorem dX5_place_69 : decode cX5_place 69 = .ok (.invokevirtual 215, 3) := by decide +kernel
theorem dX5_place_72 : decode cX5_place 72 = .ok (.istore 7, 2) := by decide +kernel
theorem dX5_place_74 : decode cX5_place 74 = .ok (.iload 7, 2) := by decide +kernel
theorem dX5_place_76 : decode cX5_place 76 = .ok (.iload_n 3, 1) := by decide +kernel
theorem dX5_place_77 : decode cX5_place 77 = .ok (.if_icmp .le 15, 3) := by decide +kernel
theorem dX5_place_80 : decode cX5_place 80 = .ok (.iload 7, 2) := by decide +kernel
theorem dX5_place_82 : decode cX5_place 82 = .ok (.istore_n 3, 1) := by decide +kernel
theorem dX5_place_83 : decode cX5_place 83 = .ok (.iload 5, 2) := by decide +kernel
theorem dX5_place_85 : decode cX5_place 85 = .ok (.iload 6, 2) := by decide +kernel
theorem dX5_place_87 : decode cX5_place 87 = .ok (.invokestatic 169, 3) := by decide +kernel
theorem dX5_place_90 : decode cX5_place 90 = .ok (.istore 4, 2) := by decide +kernel
theorem dX5_place_92 : decode cX5_place 92 = .ok (.iinc 6 1, 3) := by decide +kernel
theorem dX5_place_95 : decode cX5_place 95 = .ok (.goto (-49), 3) := by decide +kernel
theorem dX5_place_98 : decode cX5_place 98 = .ok (.iinc 5 1, 3) := by decide +kernel
theorem dX5_place_101 : decode cX5_place 101 = .ok (.goto (-65), 3) := by decide +kernel
theorem dX5_place_104 : decode cX5_place 104 = .ok (.iload_n 2, 1) := by decide +kernel
theorem dX5_place_105 : decode cX5_place 105 = .ok (.ifCond .ne 8, 3) := by decide +kernel
theorem dX5_place_108 : decode cX5_place 108 = .ok (.iload 4, 2) := by decide +kernel
theorem dX5_place_110 : decode cX5_place 110 = .ok (.goto 4, 3) := by decide +kernel
theorem dX5_place_113 : decode cX5_place 113 = .ok (.iload_n 3, 1) := by decide +kernel
theorem dX5_place_114 : decode cX5_place 114 = .ok (.ireturn, 1) := by decide +kernel
set_option maxRecDepth 20000 in
theorem ggX5_swap_X5_isEither : GoodIn wsX5_swap wsX5_isEither := goodIn_r _ [7, 8, 9, 6, 10] (by decide +kernel) (by decide +kernel)
set_option maxRecDepth 20000 in
theorem gX5_swap_X5_isEither : GoodIn wsX5_swap (va_wsS RX5 211 yX5_isEither wsX5_isEither) := goodIn_app (goodIn_of _ (by decide +kernel)) ggX5_swap_X5_isEither
set_option maxRecDepth 20000 in
theorem ggX5_swap_X0_copyFrom : GoodIn wsX5_swap wsX0_copyFrom := goodIn_r _ [15, 16, 17, 18, 19, 20, 21, 22, 23, 24, 25, 26, 27, 28, 29, 65, 66, 67, 68, 69, 70, 71, 72, 73, 74] (by decide +kernel) (by decide +kernel)
set_option maxRecDepth 20000 in
theorem gX5_swap_X0_copyFrom : GoodIn wsX5_swap (wsV RX5 91 RX0 yX0_copyFrom wsX0_copyFrom) := goodIn_app (goodIn_of _ (by decide +kernel)) ggX5_swap_X0_copyFrom
set_option maxRecDepth 20000 in
theorem ggX5_swap_X0_areaUnsigned : GoodIn wsX5_swap wsX0_areaUnsigned := goodIn_r _ [33, 34, 35, 36, 37, 38, 39, 40, 14, 41, 22, 42, 43, 44, 45, 16, 27, 21, 28, 65, 66, 67, 68, 69, 70, 71, 72, 73, 74] (by decide +kernel) (by decide +kernel)
set_option maxRecDepth 20000 in
theorem gX5_swap_X0_areaUnsigned : GoodIn wsX5_swap (wsV RX5 215 RX0 yX0_areaUnsigned wsX0_areaUnsigned) := goodIn_app (goodIn_of _ (by decide +kernel)) ggX5_swap_X0_areaUnsigned
set_option maxRecDepth 20000 in
theorem ggX5_swap_X0_exchangeCorners : GoodIn wsX5_swap wsX0_exchangeCorners := goodIn_r _ [49, 16, 21, 50, 51, 52, 14, 53, 65, 66, 67, 68, 69, 70, 71, 72, 73, 74] (by decide +kernel) (by decide +kernel)
set_option maxRecDepth 20000 in
theorem gX5_swap_X0_exchangeCorners : GoodIn wsX5_swap (wsV RX5 218 RX0 yX0_exchangeCorners wsX0_exchangeCorners) := goodIn_app (goodIn_of _ (by decide +kernel)) ggX5_swap_X0_exchangeCorners
theorem dX5_swap_0 : decode cX5_swap 0 = .ok (.iload_n 1, 1) := by decide +kernel
theorem dX5_swap_1 : decode cX5_swap 1 = .ok (.invokestatic 211, 3) := by decide +kernel
theorem dX5_swap_4 : decode cX5_swap 4 = .ok (.ifCond .ne 5, 3) := by decide +kernel
theorem dX5_swap_7 : decode cX5_swap 7 = .ok (.iconst (-1), 1) := by decide +kernel
theorem dX5_swap_8 : decode cX5_swap 8 = .ok (.ireturn, 1) := by decide +kernel
theorem dX5_swap_9 : decode cX5_swap 9 = .ok (.aload_n 0, 1) := by decide +kernel
theorem dX5_swap_10 : decode cX5_swap 10 = .ok (.getfield 16, 3) := by decide +kernel
theorem dX5_swap_13 : decode cX5_swap 13 = .ok (.aload_n 0, 1) := by decide +kernel
theorem dX5_swap_14 : decode cX5_swap 14 = .ok (.getfield 10, 3) := by decide +kernel
theorem dX5_swap_17 : decode cX5_swap 17 = .ok (.invokevirtual 91, 3) := by decide +kernel
theorem dX5_swap_20 : decode cX5_swap 20 = .ok (.aload_n 0, 1) := by decide +kernel
theorem dX5_swap_21 : decode cX5_swap 21 = .ok (.getfield 10, 3) := by decide +kernel
theorem dX5_swap_24 : decode cX5_swap 24 = .ok (.invokevirtual 215, 3) := by decide +kernel
theorem dX5_swap_27 : decode cX5_swap 27 = .ok (.istore_n 2, 1) := by decide +kernel
theorem dX5_swap_28 : decode cX5_swap 28 = .ok (.bipush (-4), 2) := by decide +kernel
theorem dX5_swap_30 : decode cX5_swap 30 = .ok (.istore_n 3, 1) := by decide +kernel
theorem dX5_swap_31 : decode cX5_swap 31 = .ok (.iconst 0, 1) := by decide +kernel
theorem dX5_swap_32 : decode cX5_swap 32 = .ok (.istore 4, 2) := by decide +kernel
theorem dX5_swap_34 : decode cX5_swap 34 = .ok (.iload 4, 2) := by decide +kernel
theorem dX5_swap_36 : decode cX5_swap 36 = .ok (.aload_n 0, 1) := by decide +kernel
theorem dX5_swap_37 : decode cX5_swap 37 = .ok (.getfield 10, 3) := by decide +kernel
theorem dX5_swap_40 : decode cX5_swap 40 = .ok (.getfield 99, 3) := by decide +kernel
theorem dX5_swap_43 : decode cX5_swap 43 = .ok (.if_icmp .ge 82, 3) := by decide +kernel
theorem dX5_swap_46 : decode cX5_swap 46 = .ok (.iload 4, 2) := by decide +kernel
theorem dX5_swap_48 : decode cX5_swap 48 = .ok (.iconst 1, 1) := by decide +kernel
theorem dX5_swap_49 : decode cX5_swap 49 = .ok (.iadd, 1) := by decide +kernel
theorem dX5_swap_50 : decode cX5_swap 50 = .ok (.istore 5, 2) := by decide +kernel
theorem dX5_swap_52 : decode cX5_swap 52 = .ok (.iload 5, 2) := by decide +kernel
theorem dX5_swap_54 : decode cX5_swap 54 = .ok (.aload_n 0, 1) := by decide +kernel
theorem dX5_swap_55 : decode cX5_swap 55 = .ok (.getfield 10, 3) := by decide +kernel
theorem dX5_swap_58 : decode cX5_swap 58 = .ok (.getfield 99, 3) := by decide +kernel
theorem dX5_swap_61 : decode cX5_swap 61 = .ok (.if_icmp .ge 58, 3) := by decide +kernel
theorem dX5_swap_64 : decode cX5_swap 64 = .ok (.aload_n 0, 1) := by decide +kernel
theorem dX5_swap_65 : decode cX5_swap 65 = .ok (.getfield 16, 3) := by decide +kernel
theorem dX5_swap_68 : decode cX5_swap 68 = .ok (.iload 4, 2) := by decide +kernel
theorem dX5_swap_70 : decode cX5_swap 70 = .ok (.iload 5, 2) := by decide +kernel
theorem dX5_swap_72 : decode cX5_swap 72 = .ok (.invokevirtual 218, 3) := by decide +kernel
theorem dX5_swap_75 : decode cX5_swap 75 = .ok (.aload_n 0, 1) := by decide +kernel
theorem dX5_swap_76 : decode cX5_swap 76 = .ok (.getfield 16, 3) := by decide +kernel
theorem dX5_swap_79 : decode cX5_swap 79 = .ok (.invokevirtual 215, 3) := by decide +kernel
theorem dX5_swap_82 : decode cX5_swap 82 = .ok (.istore 6, 2) := by decide +kernel
theorem dX5_swap_84 : decode cX5_swap 84 = .ok (.aload_n 0, 1) := by decide +kernel
theorem dX5_swap_85 : decode cX5_swap 85 = .ok (.getfield 16, 3) := by decide +kernel
theorem dX5_swap_88 : decode cX5_swap 88 = .ok (.iload 4, 2) := by decide +kernel
theorem dX5_swap_90 : decode cX5_swap 90 = .ok (.iload 5, 2) := by decide +kernel
theorem dX5_swap_92 : decode cX5_swap 92 = .ok (.invokevirtual 218, 3) := by decide +kernel
theorem dX5_swap_95 : decode cX5_swap 95 = .ok (.iload 6, 2) := by decide +kernel
theorem dX5_swap_97 : decode cX5_swap 97 = .ok (.iload_n 2, 1) := by decide +kernel
theorem dX5_swap_98 : decode cX5_swap 98 = .ok (.if_icmp .le 15, 3) := by decide +kernel
theorem dX5_swap_101 : decode cX5_swap 101 = .ok (.iload 6, 2) := by decide +kernel
theorem dX5_swap_103 : decode cX5_swap 103 = .ok (.istore_n 2, 1) := by decide +kernel
theorem dX5_swap_104 : decode cX5_swap 104 = .ok (.bipush 10, 2) := by decide +kernel
theorem dX5_swap_106 : decode cX5_swap 106 = .ok (.iload 4, 2) := by decide +kernel
theorem dX5_swap_108 : decode cX5_swap 108 = .ok (.imul, 1) := by decide +kernel
theorem dX5_swap_109 : decode cX5_swap 109 = .ok (.iload 5, 2) := by decide +kernel
theorem dX5_swap_111 : decode cX5_swap 111 = .ok (.iadd, 1) := by decide +kernel
theorem dX5_swap_112 : decode cX5_swap 112 = .ok (.istore_n 3, 1) := by decide +kernel
theorem dX5_swap_113 : decode cX5_swap 113 = .ok (.iinc 5 1, 3) := by decide +kernel
theorem dX5_swap_116 : decode cX5_swap 116 = .ok (.goto (-64), 3) := by decide +kernel
theorem dX5_swap_119 : decode cX5_swap 119 = .ok (.iinc 4 1, 3) := by decide +kernel
theorem dX5_swap_122 : decode cX5_swap 122 = .ok (.goto (-88), 3) := by decide +kernel
theorem dX5_swap_125 : decode cX5_swap 125 = .ok (.iload_n 3, 1) := by decide +kernel
theorem dX5_swap_126 : decode cX5_swap 126 = .ok (.bipush (-4), 2) := by decide +kernel
theorem dX5_swap_128 : decode cX5_swap 128 = .ok (.if_icmp .eq 7, 3) := by decide +kernel
theorem dX5_swap_131 : decode cX5_swap 131 = .ok (.iload_n 1, 1) := by decide +kernel
theorem dX5_swap_132 : decode cX5_swap 132 = .ok (.ifCond .ne 7, 3) := by decide +kernel
theorem dX5_swap_135 : decode cX5_swap 135 = .ok (.iload_n 3, 1) := by decide +kernel
theorem dX5_swap_136 : decode cX5_swap 136 = .ok (.goto 4, 3) := by decide +kernel
theorem dX5_swap_139 : decode cX5_swap 139 = .ok (.iload_n 2, 1) := by decide +kernel
theorem dX5_swap_140 : decode cX5_swap 140 = .ok (.ireturn, 1) := by decide +kernel
set_option maxRecDepth 20000 in
theorem ggX5_out_X5_isEither : GoodIn wsX5_out wsX5_isEither := goodIn_r _ [7, 8, 9, 6, 10] (by decide +kernel) (by decide +kernel)
set_option maxRecDepth 20000 in
theorem gX5_out_X5_isEither : GoodIn wsX5_out (va_wsS RX5 211 yX5_isEither wsX5_isEither) := goodIn_app (goodIn_of _ (by decide +kernel)) ggX5_out_X5_isEither
set_option maxRecDepth 20000 in
theorem ggX5_out_X0_areaUnsigned : GoodIn wsX5_out wsX0_areaUnsigned := goodIn_r _ [15, 16, 17, 18, 19, 20, 21, 22, 14, 23, 24, 25, 26, 27, 28, 29, 30, 31, 32, 65, 66, 67, 68, 69, 70, 71, 72, 73, 74] (by decide +kernel) (by decide +kernel)
set_option maxRecDepth 20000 in
theorem gX5_out_X0_areaUnsigned : GoodIn wsX5_out (wsV RX5 215 RX0 yX0_areaUnsigned wsX0_areaUnsigned) := goodIn_app (goodIn_of _ (by decide +kernel)) ggX5_out_X0_areaUnsigned
set_option maxRecDepth 20000 in
theorem ggX5_out_X0_copyFrom : GoodIn wsX5_out wsX0_copyFrom := goodIn_r _ [36, 29, 37, 38, 39, 40, 31, 24, 41, 42, 43, 44, 30, 32, 45, 65, 66, 67, 68, 69, 70, 71, 72, 73, 74] (by decide +kernel) (by decide +kernel)
set_option maxRecDepth 20000 in
theorem gX5_out_X0_copyFrom : GoodIn wsX5_out (wsV RX5 91 RX0 yX0_copyFrom wsX0_copyFrom) := goodIn_app (goodIn_of _ (by decide +kernel)) ggX5_out_X0_copyFrom
set_option maxRecDepth 20000 in
theorem ggX5_out_X0_removeCorner : GoodIn wsX5_out wsX0_removeCorner := goodIn_r _ [49, 24, 29, 31, 50, 51, 52, 14, 53, 65, 66, 67, 68, 69, 70, 71, 72, 73, 74] (by decide +kernel) (by decide +kernel)
set_option maxRecDepth 20000 in
theorem gX5_out_X0_removeCorner : GoodIn wsX5_out (wsV RX5 221 RX0 yX0_removeCorner wsX0_removeCorner) := goodIn_app (goodIn_of _ (by decide +kernel)) ggX5_out_X0_removeCorner
theorem dX5_out_0 : decode cX5_out 0 = .ok (.iload_n 1, 1) := by decide +kernel
theorem dX5_out_1 : decode cX5_out 1 = .ok (.invokestatic 211, 3) := by decide +kernel
theorem dX5_out_4 : decode cX5_out 4 = .ok (.ifCond .ne 5, 3) := by decide +kernel
theorem dX5_out_7 : decode cX5_out 7 = .ok (.iconst (-1), 1) := by decide +kernel
theorem dX5_out_8 : decode cX5_out 8 = .ok (.ireturn, 1) := by decide +kernel
theorem dX5_out_9 : decode cX5_out 9 = .ok (.aload_n 0, 1) := by decide +kernel
theorem dX5_out_10 : decode cX5_out 10 = .ok (.getfield 10, 3) := by decide +kernel
theorem dX5_out_13 : decode cX5_out 13 = .ok (.invokevirtual 215, 3) := by decide +kernel
theorem dX5_out_16 : decode cX5_out 16 = .ok (.istore_n 2, 1) := by decide +kernel
theorem dX5_out_17 : decode cX5_out 17 = .ok (.bipush (-4), 2) := by decide +kernel
theorem dX5_out_19 : decode cX5_out 19 = .ok (.istore_n 3, 1) := by decide +kernel
theorem dX5_out_20 : decode cX5_out 20 = .ok (.iconst 0, 1) := by decide +kernel
theorem dX5_out_21 : decode cX5_out 21 = .ok (.istore 4, 2) := by decide +kernel
theorem dX5_out_23 : decode cX5_out 23 = .ok (.iload 4, 2) := by decide +kernel
theorem dX5_out_25 : decode cX5_out 25 = .ok (.aload_n 0, 1) := by decide +kernel
theorem dX5_out_26 : decode cX5_out 26 = .ok (.getfield 10, 3) := by decide +kernel
theorem dX5_out_29 : decode cX5_out 29 = .ok (.getfield 99, 3) := by decide +kernel
theorem dX5_out_32 : decode cX5_out 32 = .ok (.if_icmp .ge 50, 3) := by decide +kernel
theorem dX5_out_35 : decode cX5_out 35 = .ok (.aload_n 0, 1) := by decide +kernel
theorem dX5_out_36 : decode cX5_out 36 = .ok (.getfield 16, 3) := by decide +kernel
theorem dX5_out_39 : decode cX5_out 39 = .ok (.aload_n 0, 1) := by decide +kernel
theorem dX5_out_40 : decode cX5_out 40 = .ok (.getfield 10, 3) := by decide +kernel
theorem dX5_out_43 : decode cX5_out 43 = .ok (.invokevirtual 91, 3) := by decide +kernel
theorem dX5_out_46 : decode cX5_out 46 = .ok (.aload_n 0, 1) := by decide +kernel
theorem dX5_out_47 : decode cX5_out 47 = .ok (.getfield 16, 3) := by decide +kernel
theorem dX5_out_50 : decode cX5_out 50 = .ok (.iload 4, 2) := by decide +kernel
theorem dX5_out_52 : decode cX5_out 52 = .ok (.invokevirtual 221, 3) := by decide +kernel
theorem dX5_out_55 : decode cX5_out 55 = .ok (.aload_n 0, 1) := by decide +kernel
theorem dX5_out_56 : decode cX5_out 56 = .ok (.getfield 16, 3) := by decide +kernel
theorem dX5_out_59 : decode cX5_out 59 = .ok (.invokevirtual 215, 3) := by decide +kernel
theorem dX5_out_62 : decode cX5_out 62 = .ok (.istore 5, 2) := by decide +kernel
theorem dX5_out_64 : decode cX5_out 64 = .ok (.iload 5, 2) := by decide +kernel
theorem dX5_out_66 : decode cX5_out 66 = .ok (.iload_n 2, 1) := by decide +kernel
theorem dX5_out_67 : decode cX5_out 67 = .ok (.if_icmp .le 9, 3) := by decide +kernel
theorem dX5_out_70 : decode cX5_out 70 = .ok (.iload 5, 2) := by decide +kernel
theorem dX5_out_72 : decode cX5_out 72 = .ok (.istore_n 2, 1) := by decide +kernel
theorem dX5_out_73 : decode cX5_out 73 = .ok (.iload 4, 2) := by decide +kernel
theorem dX5_out_75 : decode cX5_out 75 = .ok (.istore_n 3, 1) := by decide +kernel
theorem dX5_out_76 : decode cX5_out 76 = .ok (.iinc 4 1, 3) := by decide +kernel
theorem dX5_out_79 : decode cX5_out 79 = .ok (.goto (-56), 3) := by decide +kernel
theorem dX5_out_82 : decode cX5_out 82 = .ok (.iload_n 3, 1) := by decide +kernel
theorem dX5_out_83 : decode cX5_out 83 = .ok (.bipush (-4), 2) := by decide +kernel
theorem dX5_out_85 : decode cX5_out 85 = .ok (.if_icmp .eq 7, 3) := by decide +kernel
theorem dX5_out_88 : decode cX5_out 88 = .ok (.iload_n 1, 1) := by decide +kernel
theorem dX5_out_89 : decode cX5_out 89 = .ok (.ifCond .ne 7, 3) := by decide +kernel
theorem dX5_out_92 : decode cX5_out 92 = .ok (.iload_n 3, 1) := by decide +kernel
theorem dX5_out_93 : decode cX5_out 93 = .ok (.goto 4, 3) := by decide +kernel
theorem dX5_out_96 : decode cX5_out 96 = .ok (.iload_n 2, 1) := by decide +kernel
theorem dX5_out_97 : decode cX5_out 97 = .ok (.ireturn, 1) := by decide +kernel
set_option maxRecDepth 20000 in
theorem ggX5_luck_X5_isTold : GoodIn wsX5_luck wsX5_isTold := goodIn_r _ [6, 7, 8, 9, 10, 5, 11] (by decide +kernel) (by decide +kernel)
set_option maxRecDepth 20000 in
theorem gX5_luck_X5_isTold : GoodIn wsX5_luck (va_wsS RX5 205 yX5_isTold wsX5_isTold) := goodIn_app (goodIn_of _ (by decide +kernel)) ggX5_luck_X5_isTold
set_option maxRecDepth 20000 in
theorem ggX5_luck_X5_isMissing : GoodIn wsX5_luck wsX5_isMissing := goodIn_r _ [15, 9, 10, 5, 11, 16, 17, 18, 19, 20, 21, 80, 81, 82, 83, 84, 85, 86, 87, 88, 89, 90, 91, 92, 93, 94, 95, 96, 97, 98, 99, 100] (by decide +kernel) (by decide +kernel)
set_option maxRecDepth 20000 in
theorem gX5_luck_X5_isMissing : GoodIn wsX5_luck (wsV RX5 224 RX5 yX5_isMissing wsX5_isMissing) := goodIn_app (goodIn_of _ (by decide +kernel)) ggX5_luck_X5_isMissing
set_option maxRecDepth 20000 in
theorem ggX5_luck_X5_isEither : GoodIn wsX5_luck wsX5_isEither := goodIn_r _ [24, 9, 10, 5, 11] (by decide +kernel) (by decide +kernel)
set_option maxRecDepth 20000 in
theorem gX5_luck_X5_isEither : GoodIn wsX5_luck (va_wsS RX5 211 yX5_isEither wsX5_isEither) := goodIn_app (goodIn_of _ (by decide +kernel)) ggX5_luck_X5_isEither
set_option maxRecDepth 20000 in
theorem ggX5_luck_X5_setEdgeRolls : GoodIn wsX5_luck wsX5_setEdgeRolls := goodIn_r _ [28, 29, 20, 30, 31, 32, 33, 34, 35, 36, 37, 38, 39, 40, 41, 42, 43, 44, 45, 46, 47, 48, 49, 50, 51, 52, 53, 54, 55, 56, 57, 58, 59, 60, 61, 80, 81, 82, 83, 84, 85, 86, 87, 88, 89, 90, 91, 92, 93, 94, 95, 96, 97, 98, 99, 100] (by decide +kernel) (by decide +kernel)
set_option maxRecDepth 20000 in
theorem gX5_luck_X5_setEdgeRolls : GoodIn wsX5_luck (wsV RX5 229 RX5 yX5_setEdgeRolls wsX5_setEdgeRolls) := goodIn_app (goodIn_of _ (by decide +kernel)) ggX5_luck_X5_setEdgeRolls
set_option maxRecDepth 20000 in
theorem ggX5_luck_X5_readsByTraced : GoodIn wsX5_luck wsX5_readsByTraced := goodIn_r _ [65, 20, 66, 29, 80, 81, 82, 83, 84, 85, 86, 87, 88, 89, 90, 91, 92, 93, 94, 95, 96, 97, 98, 99, 100] (by decide +kernel) (by decide +kernel)
set_option maxRecDepth 20000 in
theorem gX5_luck_X5_readsByTraced : GoodIn wsX5_luck (wsV RX5 232 RX5 yX5_readsByTraced wsX5_readsByTraced) := goodIn_app (goodIn_of _ (by decide +kernel)) ggX5_luck_X5_readsByTraced
set_option maxRecDepth 20000 in
theorem ggX5_luck_X5_chancesOf : GoodIn wsX5_luck wsX5_chancesOf := goodIn_r _ [69] (by decide +kernel) (by decide +kernel)
set_option maxRecDepth 20000 in
theorem gX5_luck_X5_chancesOf : GoodIn wsX5_luck (va_wsS RX5 236 yX5_chancesOf wsX5_chancesOf) := goodIn_app (goodIn_of _ (by decide +kernel)) ggX5_luck_X5_chancesOf
set_option maxRecDepth 20000 in
theorem ggX5_luck_X5_tenTimes : GoodIn wsX5_luck wsX5_tenTimes := goodIn_r _ [72, 73] (by decide +kernel) (by decide +kernel)
set_option maxRecDepth 20000 in
theorem gX5_luck_X5_tenTimes : GoodIn wsX5_luck (va_wsS RX5 240 yX5_tenTimes wsX5_tenTimes) := goodIn_app (goodIn_of _ (by decide +kernel)) ggX5_luck_X5_tenTimes
set_option maxRecDepth 20000 in
theorem ggX5_luck_X5_partOfFraction : GoodIn wsX5_luck wsX5_partOfFraction := goodIn_r _ [76, 1, 77, 78, 5, 79] (by decide +kernel) (by decide +kernel)
set_option maxRecDepth 20000 in
theorem gX5_luck_X5_partOfFraction : GoodIn wsX5_luck (va_wsS RX5 244 yX5_partOfFraction wsX5_partOfFraction) := goodIn_app (goodIn_of _ (by decide +kernel)) ggX5_luck_X5_partOfFraction
theorem dX5_luck_0 : decode cX5_luck 0 = .ok (.iload_n 3, 1) := by decide +kernel
theorem dX5_luck_1 : decode cX5_luck 1 = .ok (.invokestatic 205, 3) := by decide +kernel
theorem dX5_luck_4 : decode cX5_luck 4 = .ok (.ifCond .eq 22, 3) := by decide +kernel
theorem dX5_luck_7 : decode cX5_luck 7 = .ok (.aload_n 0, 1) := by decide +kernel
theorem dX5_luck_8 : decode cX5_luck 8 = .ok (.iload_n 1, 1) := by decide +kernel
theorem dX5_luck_9 : decode cX5_luck 9 = .ok (.iload_n 2, 1) := by decide +kernel
theorem dX5_luck_10 : decode cX5_luck 10 = .ok (.iload 4, 2) := by decide +kernel
theorem dX5_luck_12 : decode cX5_luck 12 = .ok (.invokevirtual 224, 3) := by decide +kernel
theorem dX5_luck_15 : decode cX5_luck 15 = .ok (.ifCond .eq 11, 3) := by decide +kernel
theorem dX5_luck_18 : decode cX5_luck 18 = .ok (.iload 5, 2) := by decide +kernel
theorem dX5_luck_20 : decode cX5_luck 20 = .ok (.invokestatic 211, 3) := by decide +kernel
theorem dX5_luck_23 : decode cX5_luck 23 = .ok (.ifCond .ne 7, 3) := by decide +kernel
theorem dX5_luck_26 : decode cX5_luck 26 = .ok (.ldc2_w 227, 3) := by decide +kernel
theorem dX5_luck_29 : decode cX5_luck 29 = .ok (.lreturn, 1) := by decide +kernel
theorem dX5_luck_30 : decode cX5_luck 30 = .ok (.aload_n 0, 1) := by decide +kernel
theorem dX5_luck_31 : decode cX5_luck 31 = .ok (.iload_n 2, 1) := by decide +kernel
theorem dX5_luck_32 : decode cX5_luck 32 = .ok (.iload 4, 2) := by decide +kernel
theorem dX5_luck_34 : decode cX5_luck 34 = .ok (.invokevirtual 229, 3) := by decide +kernel
theorem dX5_luck_37 : decode cX5_luck 37 = .ok (.iload_n 3, 1) := by decide +kernel
theorem dX5_luck_38 : decode cX5_luck 38 = .ok (.ldc 145, 2) := by decide +kernel
theorem dX5_luck_40 : decode cX5_luck 40 = .ok (.isub, 1) := by decide +kernel
theorem dX5_luck_41 : decode cX5_luck 41 = .ok (.istore 6, 2) := by decide +kernel
theorem dX5_luck_43 : decode cX5_luck 43 = .ok (.lconst 0, 1) := by decide +kernel
theorem dX5_luck_44 : decode cX5_luck 44 = .ok (.lstore 7, 2) := by decide +kernel
theorem dX5_luck_46 : decode cX5_luck 46 = .ok (.iconst 0, 1) := by decide +kernel
theorem dX5_luck_47 : decode cX5_luck 47 = .ok (.istore 9, 2) := by decide +kernel
theorem dX5_luck_49 : decode cX5_luck 49 = .ok (.iload 9, 2) := by decide +kernel
theorem dX5_luck_51 : decode cX5_luck 51 = .ok (.iconst 1, 1) := by decide +kernel
theorem dX5_luck_52 : decode cX5_luck 52 = .ok (.iload 4, 2) := by decide +kernel
theorem dX5_luck_54 : decode cX5_luck 54 = .ok (.ishl, 1) := by decide +kernel
theorem dX5_luck_55 : decode cX5_luck 55 = .ok (.if_icmp .ge 36, 3) := by decide +kernel
theorem dX5_luck_58 : decode cX5_luck 58 = .ok (.aload_n 0, 1) := by decide +kernel
theorem dX5_luck_59 : decode cX5_luck 59 = .ok (.iload_n 2, 1) := by decide +kernel
theorem dX5_luck_60 : decode cX5_luck 60 = .ok (.iload 4, 2) := by decide +kernel
theorem dX5_luck_62 : decode cX5_luck 62 = .ok (.iload 9, 2) := by decide +kernel
theorem dX5_luck_64 : decode cX5_luck 64 = .ok (.invokevirtual 232, 3) := by decide +kernel
theorem dX5_luck_67 : decode cX5_luck 67 = .ok (.iload 6, 2) := by decide +kernel
theorem dX5_luck_69 : decode cX5_luck 69 = .ok (.if_icmp .lt 16, 3) := by decide +kernel
theorem dX5_luck_72 : decode cX5_luck 72 = .ok (.lload 7, 2) := by decide +kernel
theorem dX5_luck_74 : decode cX5_luck 74 = .ok (.iload_n 1, 1) := by decide +kernel
theorem dX5_luck_75 : decode cX5_luck 75 = .ok (.iload 4, 2) := by decide +kernel
theorem dX5_luck_77 : decode cX5_luck 77 = .ok (.iload 9, 2) := by decide +kernel
theorem dX5_luck_79 : decode cX5_luck 79 = .ok (.invokestatic 236, 3) := by decide +kernel
theorem dX5_luck_82 : decode cX5_luck 82 = .ok (.ladd, 1) := by decide +kernel
theorem dX5_luck_83 : decode cX5_luck 83 = .ok (.lstore 7, 2) := by decide +kernel
theorem dX5_luck_85 : decode cX5_luck 85 = .ok (.iinc 9 1, 3) := by decide +kernel
theorem dX5_luck_88 : decode cX5_luck 88 = .ok (.goto (-39), 3) := by decide +kernel
theorem dX5_luck_91 : decode cX5_luck 91 = .ok (.lload 7, 2) := by decide +kernel
theorem dX5_luck_93 : decode cX5_luck 93 = .ok (.iload 4, 2) := by decide +kernel
theorem dX5_luck_95 : decode cX5_luck 95 = .ok (.invokestatic 240, 3) := by decide +kernel
theorem dX5_luck_98 : decode cX5_luck 98 = .ok (.iload 5, 2) := by decide +kernel
theorem dX5_luck_100 : decode cX5_luck 100 = .ok (.invokestatic 244, 3) := by decide +kernel
theorem dX5_luck_103 : decode cX5_luck 103 = .ok (.lreturn, 1) := by decide +kernel
set_option maxRecDepth 20000 in
theorem ggX5_mean_X5_isMissing : GoodIn wsX5_mean wsX5_isMissing := goodIn_r _ [10, 11, 12, 9, 13, 14, 15, 16, 17, 18, 19, 75, 76, 77, 78, 79, 80, 81, 82, 83, 84, 85, 86, 87, 88, 89, 90, 91, 92, 93, 94, 95] (by decide +kernel) (by decide +kernel)
set_option maxRecDepth 20000 in
theorem gX5_mean_X5_isMissing : GoodIn wsX5_mean (wsV RX5 224 RX5 yX5_isMissing wsX5_isMissing) := goodIn_app (goodIn_of _ (by decide +kernel)) ggX5_mean_X5_isMissing
set_option maxRecDepth 20000 in
theorem ggX5_mean_X5_isEither : GoodIn wsX5_mean wsX5_isEither := goodIn_r _ [22, 11, 12, 9, 13] (by decide +kernel) (by decide +kernel)
set_option maxRecDepth 20000 in
theorem gX5_mean_X5_isEither : GoodIn wsX5_mean (va_wsS RX5 211 yX5_isEither wsX5_isEither) := goodIn_app (goodIn_of _ (by decide +kernel)) ggX5_mean_X5_isEither
set_option maxRecDepth 20000 in
theorem ggX5_mean_X5_setEdgeRolls : GoodIn wsX5_mean wsX5_setEdgeRolls := goodIn_r _ [26, 27, 18, 28, 29, 30, 31, 32, 33, 34, 35, 36, 37, 38, 39, 40, 41, 42, 43, 44, 45, 46, 47, 48, 49, 50, 51, 52, 53, 54, 55, 56, 3, 4, 5, 75, 76, 77, 78, 79, 80, 81, 82, 83, 84, 85, 86, 87, 88, 89, 90, 91, 92, 93, 94, 95] (by decide +kernel) (by decide +kernel)
set_option maxRecDepth 20000 in
theorem gX5_mean_X5_setEdgeRolls : GoodIn wsX5_mean (wsV RX5 229 RX5 yX5_setEdgeRolls wsX5_setEdgeRolls) := goodIn_app (goodIn_of _ (by decide +kernel)) ggX5_mean_X5_setEdgeRolls
set_option maxRecDepth 20000 in
theorem ggX5_mean_X5_chancesOf : GoodIn wsX5_mean wsX5_chancesOf := goodIn_r _ [59] (by decide +kernel) (by decide +kernel)
set_option maxRecDepth 20000 in
theorem gX5_mean_X5_chancesOf : GoodIn wsX5_mean (va_wsS RX5 236 yX5_chancesOf wsX5_chancesOf) := goodIn_app (goodIn_of _ (by decide +kernel)) ggX5_mean_X5_chancesOf
set_option maxRecDepth 20000 in
theorem ggX5_mean_X5_readsByTraced : GoodIn wsX5_mean wsX5_readsByTraced := goodIn_r _ [63, 18, 64, 27, 75, 76, 77, 78, 79, 80, 81, 82, 83, 84, 85, 86, 87, 88, 89, 90, 91, 92, 93, 94, 95] (by decide +kernel) (by decide +kernel)
set_option maxRecDepth 20000 in
theorem gX5_mean_X5_readsByTraced : GoodIn wsX5_mean (wsV RX5 232 RX5 yX5_readsByTraced wsX5_readsByTraced) := goodIn_app (goodIn_of _ (by decide +kernel)) ggX5_mean_X5_readsByTraced
set_option maxRecDepth 20000 in
theorem ggX5_mean_X5_tenTimes : GoodIn wsX5_mean wsX5_tenTimes := goodIn_r _ [67, 68] (by decide +kernel) (by decide +kernel)
set_option maxRecDepth 20000 in
theorem gX5_mean_X5_tenTimes : GoodIn wsX5_mean (va_wsS RX5 240 yX5_tenTimes wsX5_tenTimes) := goodIn_app (goodIn_of _ (by decide +kernel)) ggX5_mean_X5_tenTimes
set_option maxRecDepth 20000 in
theorem ggX5_mean_X5_partOfFraction : GoodIn wsX5_mean wsX5_partOfFraction := goodIn_r _ [71, 1, 72, 73, 9, 74] (by decide +kernel) (by decide +kernel)
set_option maxRecDepth 20000 in
theorem gX5_mean_X5_partOfFraction : GoodIn wsX5_mean (va_wsS RX5 244 yX5_partOfFraction wsX5_partOfFraction) := goodIn_app (goodIn_of _ (by decide +kernel)) ggX5_mean_X5_partOfFraction
theorem dX5_mean_0 : decode cX5_mean 0 = .ok (.aload_n 0, 1) := by decide +kernel
theorem dX5_mean_1 : decode cX5_mean 1 = .ok (.iload_n 1, 1) := by decide +kernel
theorem dX5_mean_2 : decode cX5_mean 2 = .ok (.iload_n 2, 1) := by decide +kernel
theorem dX5_mean_3 : decode cX5_mean 3 = .ok (.iload_n 3, 1) := by decide +kernel
theorem dX5_mean_4 : decode cX5_mean 4 = .ok (.invokevirtual 224, 3) := by decide +kernel
theorem dX5_mean_7 : decode cX5_mean 7 = .ok (.ifCond .eq 11, 3) := by decide +kernel
theorem dX5_mean_10 : decode cX5_mean 10 = .ok (.iload 4, 2) := by decide +kernel
theorem dX5_mean_12 : decode cX5_mean 12 = .ok (.invokestatic 211, 3) := by decide +kernel
theorem dX5_mean_15 : decode cX5_mean 15 = .ok (.ifCond .ne 7, 3) := by decide +kernel
theorem dX5_mean_18 : decode cX5_mean 18 = .ok (.ldc2_w 227, 3) := by decide +kernel
theorem dX5_mean_21 : decode cX5_mean 21 = .ok (.lreturn, 1) := by decide +kernel
theorem dX5_mean_22 : decode cX5_mean 22 = .ok (.aload_n 0, 1) := by decide +kernel
theorem dX5_mean_23 : decode cX5_mean 23 = .ok (.iload_n 2, 1) := by decide +kernel
theorem dX5_mean_24 : decode cX5_mean 24 = .ok (.iload_n 3, 1) := by decide +kernel
theorem dX5_mean_25 : decode cX5_mean 25 = .ok (.invokevirtual 229, 3) := by decide +kernel
theorem dX5_mean_28 : decode cX5_mean 28 = .ok (.lconst 0, 1) := by decide +kernel
theorem dX5_mean_29 : decode cX5_mean 29 = .ok (.lstore 5, 2) := by decide +kernel
theorem dX5_mean_31 : decode cX5_mean 31 = .ok (.iconst 0, 1) := by decide +kernel
theorem dX5_mean_32 : decode cX5_mean 32 = .ok (.istore 7, 2) := by decide +kernel
theorem dX5_mean_34 : decode cX5_mean 34 = .ok (.iload 7, 2) := by decide +kernel
theorem dX5_mean_36 : decode cX5_mean 36 = .ok (.iconst 1, 1) := by decide +kernel
theorem dX5_mean_37 : decode cX5_mean 37 = .ok (.iload_n 3, 1) := by decide +kernel
theorem dX5_mean_38 : decode cX5_mean 38 = .ok (.ishl, 1) := by decide +kernel
theorem dX5_mean_39 : decode cX5_mean 39 = .ok (.if_icmp .ge 34, 3) := by decide +kernel
theorem dX5_mean_42 : decode cX5_mean 42 = .ok (.lload 5, 2) := by decide +kernel
theorem dX5_mean_44 : decode cX5_mean 44 = .ok (.iload_n 1, 1) := by decide +kernel
theorem dX5_mean_45 : decode cX5_mean 45 = .ok (.iload_n 3, 1) := by decide +kernel
theorem dX5_mean_46 : decode cX5_mean 46 = .ok (.iload 7, 2) := by decide +kernel
theorem dX5_mean_48 : decode cX5_mean 48 = .ok (.invokestatic 236, 3) := by decide +kernel
theorem dX5_mean_51 : decode cX5_mean 51 = .ok (.aload_n 0, 1) := by decide +kernel
theorem dX5_mean_52 : decode cX5_mean 52 = .ok (.iload_n 2, 1) := by decide +kernel
theorem dX5_mean_53 : decode cX5_mean 53 = .ok (.iload_n 3, 1) := by decide +kernel
theorem dX5_mean_54 : decode cX5_mean 54 = .ok (.iload 7, 2) := by decide +kernel
theorem dX5_mean_56 : decode cX5_mean 56 = .ok (.invokevirtual 232, 3) := by decide +kernel
theorem dX5_mean_59 : decode cX5_mean 59 = .ok (.invokestatic 248, 3) := by decide +kernel
theorem dX5_mean_62 : decode cX5_mean 62 = .ok (.i2l, 1) := by decide +kernel
theorem dX5_mean_63 : decode cX5_mean 63 = .ok (.lmul, 1) := by decide +kernel
theorem dX5_mean_64 : decode cX5_mean 64 = .ok (.ladd, 1) := by decide +kernel
theorem dX5_mean_65 : decode cX5_mean 65 = .ok (.lstore 5, 2) := by decide +kernel
theorem dX5_mean_67 : decode cX5_mean 67 = .ok (.iinc 7 1, 3) := by decide +kernel
theorem dX5_mean_70 : decode cX5_mean 70 = .ok (.goto (-36), 3) := by decide +kernel
theorem dX5_mean_73 : decode cX5_mean 73 = .ok (.lload 5, 2) := by decide +kernel
theorem dX5_mean_75 : decode cX5_mean 75 = .ok (.iload_n 3, 1) := by decide +kernel
theorem dX5_mean_76 : decode cX5_mean 76 = .ok (.invokestatic 240, 3) := by decide +kernel
theorem dX5_mean_79 : decode cX5_mean 79 = .ok (.iload 4, 2) := by decide +kernel
theorem dX5_mean_81 : decode cX5_mean 81 = .ok (.invokestatic 244, 3) := by decide +kernel
theorem dX5_mean_84 : decode cX5_mean 84 = .ok (.lreturn, 1) := by decide +kernel
set_option maxRecDepth 20000 in
theorem ggX5_see_X5_within : GoodIn wsX5_see wsX5_within := goodIn_r _ [7] (by decide +kernel) (by decide +kernel)
set_option maxRecDepth 20000 in
theorem gX5_see_X5_within : GoodIn wsX5_see (va_wsS RX5 62 yX5_within wsX5_within) := goodIn_app (goodIn_of _ (by decide +kernel)) ggX5_see_X5_within
set_option maxRecDepth 20000 in
theorem ggX5_see_X5_hasWheel : GoodIn wsX5_see wsX5_hasWheel := goodIn_r _ [11, 12, 13, 4, 5, 6, 7, 28, 29, 30, 31, 32, 33, 34, 35, 36, 37, 38, 43, 44, 45, 46, 47, 48, 49, 50, 51, 52] (by decide +kernel) (by decide +kernel)
set_option maxRecDepth 20000 in
theorem gX5_see_X5_hasWheel : GoodIn wsX5_see (wsV RX5 136 RX5 yX5_hasWheel wsX5_hasWheel) := goodIn_app (goodIn_of _ (by decide +kernel)) ggX5_see_X5_hasWheel
set_option maxRecDepth 20000 in
theorem ggX5_see_X5_isTold : GoodIn wsX5_see wsX5_isTold := goodIn_r _ [16, 17, 18, 4, 5, 6, 7] (by decide +kernel) (by decide +kernel)
set_option maxRecDepth 20000 in
theorem gX5_see_X5_isTold : GoodIn wsX5_see (va_wsS RX5 205 yX5_isTold wsX5_isTold) := goodIn_app (goodIn_of _ (by decide +kernel)) ggX5_see_X5_isTold
set_option maxRecDepth 20000 in
theorem ggX5_see_X2_append : GoodIn wsX5_see wsX2_append := goodIn_r _ [23, 24, 25, 26, 27, 39, 40, 41, 42] (by decide +kernel) (by decide +kernel)
set_option maxRecDepth 20000 in
theorem gX5_see_X2_append : GoodIn wsX5_see (wsV RX5 253 RX2 yX2_append wsX2_append) := goodIn_app (goodIn_of _ (by decide +kernel)) ggX5_see_X2_append
theorem dX5_see_0 : decode cX5_see 0 = .ok (.iload_n 1, 1) := by decide +kernel
theorem dX5_see_1 : decode cX5_see 1 = .ok (.iconst 0, 1) := by decide +kernel
theorem dX5_see_2 : decode cX5_see 2 = .ok (.bipush 40, 2) := by decide +kernel
theorem dX5_see_4 : decode cX5_see 4 = .ok (.invokestatic 62, 3) := by decide +kernel
theorem dX5_see_7 : decode cX5_see 7 = .ok (.ifCond .eq 18, 3) := by decide +kernel
theorem dX5_see_10 : decode cX5_see 10 = .ok (.aload_n 0, 1) := by decide +kernel
theorem dX5_see_11 : decode cX5_see 11 = .ok (.iload_n 2, 1) := by decide +kernel
theorem dX5_see_12 : decode cX5_see 12 = .ok (.invokevirtual 136, 3) := by decide +kernel
theorem dX5_see_15 : decode cX5_see 15 = .ok (.ifCond .eq 10, 3) := by decide +kernel
theorem dX5_see_18 : decode cX5_see 18 = .ok (.iload_n 3, 1) := by decide +kernel
theorem dX5_see_19 : decode cX5_see 19 = .ok (.invokestatic 205, 3) := by decide +kernel
theorem dX5_see_22 : decode cX5_see 22 = .ok (.ifCond .ne 5, 3) := by decide +kernel
theorem dX5_see_25 : decode cX5_see 25 = .ok (.iconst (-1), 1) := by decide +kernel
theorem dX5_see_26 : decode cX5_see 26 = .ok (.ireturn, 1) := by decide +kernel
theorem dX5_see_27 : decode cX5_see 27 = .ok (.aload_n 0, 1) := by decide +kernel
theorem dX5_see_28 : decode cX5_see 28 = .ok (.getfield 37, 3) := by decide +kernel
theorem dX5_see_31 : decode cX5_see 31 = .ok (.getfield 95, 3) := by decide +kernel
theorem dX5_see_34 : decode cX5_see 34 = .ok (.bipush 6, 2) := by decide +kernel
theorem dX5_see_36 : decode cX5_see 36 = .ok (.if_icmp .lt 6, 3) := by decide +kernel
theorem dX5_see_39 : decode cX5_see 39 = .ok (.bipush (-3), 2) := by decide +kernel
theorem dX5_see_41 : decode cX5_see 41 = .ok (.ireturn, 1) := by decide +kernel
theorem dX5_see_42 : decode cX5_see 42 = .ok (.aload_n 0, 1) := by decide +kernel
theorem dX5_see_43 : decode cX5_see 43 = .ok (.getfield 37, 3) := by decide +kernel
theorem dX5_see_46 : decode cX5_see 46 = .ok (.iload_n 1, 1) := by decide +kernel
theorem dX5_see_47 : decode cX5_see 47 = .ok (.iload_n 2, 1) := by decide +kernel
theorem dX5_see_48 : decode cX5_see 48 = .ok (.iload_n 3, 1) := by decide +kernel
theorem dX5_see_49 : decode cX5_see 49 = .ok (.ldc 145, 2) := by decide +kernel
theorem dX5_see_51 : decode cX5_see 51 = .ok (.isub, 1) := by decide +kernel
theorem dX5_see_52 : decode cX5_see 52 = .ok (.invokevirtual 253, 3) := by decide +kernel
theorem dX5_see_55 : decode cX5_see 55 = .ok (.aload_n 0, 1) := by decide +kernel
theorem dX5_see_56 : decode cX5_see 56 = .ok (.getfield 37, 3) := by decide +kernel
theorem dX5_see_59 : decode cX5_see 59 = .ok (.getfield 95, 3) := by decide +kernel
theorem dX5_see_62 : decode cX5_see 62 = .ok (.ireturn, 1) := by decide +kernel
set_option maxRecDepth 20000 in
theorem ggX5_forget_X5_within : GoodIn wsX5_forget wsX5_within := goodIn_r _ [6] (by decide +kernel) (by decide +kernel)
set_option maxRecDepth 20000 in
theorem gX5_forget_X5_within : GoodIn wsX5_forget (va_wsS RX5 62 yX5_within wsX5_within) := goodIn_app (goodIn_of _ (by decide +kernel)) ggX5_forget_X5_within
theorem dX5_forget_0 : decode cX5_forget 0 = .ok (.iload_n 1, 1) := by decide +kernel
theorem dX5_forget_1 : decode cX5_forget 1 = .ok (.iconst 0, 1) := by decide +kernel
theorem dX5_forget_2 : decode cX5_forget 2 = .ok (.aload_n 0, 1) := by decide +kernel
theorem dX5_forget_3 : decode cX5_forget 3 = .ok (.getfield 37, 3) := by decide +kernel
theorem dX5_forget_6 : decode cX5_forget 6 = .ok (.getfield 95, 3) := by decide +kernel
theorem dX5_forget_9 : decode cX5_forget 9 = .ok (.invokestatic 62, 3) := by decide +kernel
theorem dX5_forget_12 : decode cX5_forget 12 = .ok (.ifCond .ne 5, 3) := by decide +kernel
theorem dX5_forget_15 : decode cX5_forget 15 = .ok (.iconst (-1), 1) := by decide +kernel
theorem dX5_forget_16 : decode cX5_forget 16 = .ok (.ireturn, 1) := by decide +kernel
theorem dX5_forget_17 : decode cX5_forget 17 = .ok (.aload_n 0, 1) := by decide +kernel
theorem dX5_forget_18 : decode cX5_forget 18 = .ok (.getfield 37, 3) := by decide +kernel
theorem dX5_forget_21 : decode cX5_forget 21 = .ok (.getfield 95, 3) := by decide +kernel
theorem dX5_forget_24 : decode cX5_forget 24 = .ok (.istore_n 2, 1) := by decide +kernel
theorem dX5_forget_25 : decode cX5_forget 25 = .ok (.aload_n 0, 1) := by decide +kernel
theorem dX5_forget_26 : decode cX5_forget 26 = .ok (.getfield 37, 3) := by decide +kernel
theorem dX5_forget_29 : decode cX5_forget 29 = .ok (.iload_n 1, 1) := by decide +kernel
theorem dX5_forget_30 : decode cX5_forget 30 = .ok (.putfield 95, 3) := by decide +kernel
theorem dX5_forget_33 : decode cX5_forget 33 = .ok (.iload_n 2, 1) := by decide +kernel
theorem dX5_forget_34 : decode cX5_forget 34 = .ok (.ireturn, 1) := by decide +kernel
set_option maxRecDepth 20000 in
theorem ggX5_kinds_X5_hasWheel : GoodIn wsX5_kinds wsX5_hasWheel := goodIn_r _ [9, 2, 10, 11, 12, 8, 13, 70, 71, 72, 73, 74, 75, 76, 77, 78, 79, 80, 81, 82, 83, 84, 85, 86, 87, 88, 89, 90] (by decide +kernel) (by decide +kernel)
set_option maxRecDepth 20000 in
theorem gX5_kinds_X5_hasWheel : GoodIn wsX5_kinds (wsV RX5 136 RX5 yX5_hasWheel wsX5_hasWheel) := goodIn_app (goodIn_of _ (by decide +kernel)) ggX5_kinds_X5_hasWheel
set_option maxRecDepth 20000 in
theorem ggX5_kinds_X0_copyFrom : GoodIn wsX5_kinds wsX0_copyFrom := goodIn_r _ [18, 19, 20, 21, 22, 23, 24, 25, 26, 27, 28, 29, 30, 31, 32, 81, 82, 83, 84, 85, 86, 87, 88, 89, 90] (by decide +kernel) (by decide +kernel)
set_option maxRecDepth 20000 in
theorem gX5_kinds_X0_copyFrom : GoodIn wsX5_kinds (wsV RX5 91 RX0 yX0_copyFrom wsX0_copyFrom) := goodIn_app (goodIn_of _ (by decide +kernel)) ggX5_kinds_X0_copyFrom
set_option maxRecDepth 20000 in
theorem ggX5_kinds_X2_agreeWith : GoodIn wsX5_kinds wsX2_agreeWith := goodIn_r _ [37, 38, 39, 40, 41, 42, 43, 44, 45, 17, 46, 28, 47, 48, 49, 50, 51, 52, 53, 54, 25, 32, 55, 56, 57, 58, 19, 30, 24, 31, 59, 60, 61, 62, 26, 27, 63, 64, 65, 66, 67, 68, 69, 91, 92, 93, 94, 81, 82, 83, 84, 85, 86, 87, 88, 89, 90] (by decide +kernel) (by decide +kernel)
set_option maxRecDepth 20000 in
theorem gX5_kinds_X2_agreeWith : GoodIn wsX5_kinds (wsV RX5 255 RX2 yX2_agreeWith wsX2_agreeWith) := goodIn_app (goodIn_of _ (by decide +kernel)) ggX5_kinds_X2_agreeWith
theorem dX5_kinds_0 : decode cX5_kinds 0 = .ok (.aload_n 0, 1) := by decide +kernel
theorem dX5_kinds_1 : decode cX5_kinds 1 = .ok (.iload_n 1, 1) := by decide +kernel
theorem dX5_kinds_2 : decode cX5_kinds 2 = .ok (.invokevirtual 136, 3) := by decide +kernel
theorem dX5_kinds_5 : decode cX5_kinds 5 = .ok (.ifCond .ne 5, 3) := by decide +kernel
theorem dX5_kinds_8 : decode cX5_kinds 8 = .ok (.iconst (-1), 1) := by decide +kernel
theorem dX5_kinds_9 : decode cX5_kinds 9 = .ok (.ireturn, 1) := by decide +kernel
theorem dX5_kinds_10 : decode cX5_kinds 10 = .ok (.aload_n 0, 1) := by decide +kernel
theorem dX5_kinds_11 : decode cX5_kinds 11 = .ok (.getfield 16, 3) := by decide +kernel
theorem dX5_kinds_14 : decode cX5_kinds 14 = .ok (.aload_n 0, 1) := by decide +kernel
theorem dX5_kinds_15 : decode cX5_kinds 15 = .ok (.getfield 10, 3) := by decide +kernel
theorem dX5_kinds_18 : decode cX5_kinds 18 = .ok (.invokevirtual 91, 3) := by decide +kernel
theorem dX5_kinds_21 : decode cX5_kinds 21 = .ok (.iconst 0, 1) := by decide +kernel
theorem dX5_kinds_22 : decode cX5_kinds 22 = .ok (.istore_n 2, 1) := by decide +kernel
theorem dX5_kinds_23 : decode cX5_kinds 23 = .ok (.iconst 0, 1) := by decide +kernel
theorem dX5_kinds_24 : decode cX5_kinds 24 = .ok (.istore_n 3, 1) := by decide +kernel
theorem dX5_kinds_25 : decode cX5_kinds 25 = .ok (.iload_n 3, 1) := by decide +kernel
theorem dX5_kinds_26 : decode cX5_kinds 26 = .ok (.iconst 4, 1) := by decide +kernel
theorem dX5_kinds_27 : decode cX5_kinds 27 = .ok (.if_icmp .ge 39, 3) := by decide +kernel
theorem dX5_kinds_30 : decode cX5_kinds 30 = .ok (.aload_n 0, 1) := by decide +kernel
theorem dX5_kinds_31 : decode cX5_kinds 31 = .ok (.getfield 16, 3) := by decide +kernel
theorem dX5_kinds_34 : decode cX5_kinds 34 = .ok (.getfield 139, 3) := by decide +kernel
theorem dX5_kinds_37 : decode cX5_kinds 37 = .ok (.iload_n 1, 1) := by decide +kernel
theorem dX5_kinds_38 : decode cX5_kinds 38 = .ok (.iload_n 3, 1) := by decide +kernel
theorem dX5_kinds_39 : decode cX5_kinds 39 = .ok (.iastore, 1) := by decide +kernel
theorem dX5_kinds_40 : decode cX5_kinds 40 = .ok (.aload_n 0, 1) := by decide +kernel
theorem dX5_kinds_41 : decode cX5_kinds 41 = .ok (.getfield 37, 3) := by decide +kernel
theorem dX5_kinds_44 : decode cX5_kinds 44 = .ok (.aload_n 0, 1) := by decide +kernel
theorem dX5_kinds_45 : decode cX5_kinds 45 = .ok (.getfield 16, 3) := by decide +kernel
theorem dX5_kinds_48 : decode cX5_kinds 48 = .ok (.invokevirtual 255, 3) := by decide +kernel
theorem dX5_kinds_51 : decode cX5_kinds 51 = .ok (.ifCond .eq 9, 3) := by decide +kernel
theorem dX5_kinds_54 : decode cX5_kinds 54 = .ok (.iload_n 2, 1) := by decide +kernel
theorem dX5_kinds_55 : decode cX5_kinds 55 = .ok (.iconst 1, 1) := by decide +kernel
theorem dX5_kinds_56 : decode cX5_kinds 56 = .ok (.iload_n 3, 1) := by decide +kernel
theorem dX5_kinds_57 : decode cX5_kinds 57 = .ok (.ishl, 1) := by decide +kernel
theorem dX5_kinds_58 : decode cX5_kinds 58 = .ok (.ior, 1) := by decide +kernel
theorem dX5_kinds_59 : decode cX5_kinds 59 = .ok (.istore_n 2, 1) := by decide +kernel
theorem dX5_kinds_60 : decode cX5_kinds 60 = .ok (.iinc 3 1, 3) := by decide +kernel
theorem dX5_kinds_63 : decode cX5_kinds 63 = .ok (.goto (-38), 3) := by decide +kernel
theorem dX5_kinds_66 : decode cX5_kinds 66 = .ok (.iload_n 2, 1) := by decide +kernel
theorem dX5_kinds_67 : decode cX5_kinds 67 = .ok (.ireturn, 1) := by decide +kernel
set_option maxRecDepth 20000 in
theorem ggX5_steps_X5_hasWheel : GoodIn wsX5_steps wsX5_hasWheel := goodIn_r _ [5, 6, 7, 8, 9, 4, 10, 74, 75, 76, 77, 78, 79, 80, 81, 82, 83, 84, 85, 86, 87, 88, 89, 90, 91, 92, 93, 94] (by decide +kernel) (by decide +kernel)
set_option maxRecDepth 20000 in
theorem gX5_steps_X5_hasWheel : GoodIn wsX5_steps (wsV RX5 136 RX5 yX5_hasWheel wsX5_hasWheel) := goodIn_app (goodIn_of _ (by decide +kernel)) ggX5_steps_X5_hasWheel
set_option maxRecDepth 20000 in
theorem ggX5_steps_X5_stepsAsSeen : GoodIn wsX5_steps wsX5_stepsAsSeen := goodIn_r _ [14, 15, 6, 16, 17, 18, 19, 20, 21, 22, 23, 24, 25, 26, 27, 28, 29, 30, 31, 32, 33, 34, 35, 36, 37, 38, 39, 40, 41, 42, 43, 44, 45, 46, 47, 48, 49, 50, 51, 52, 53, 54, 55, 56, 57, 58, 59, 60, 61, 62, 63, 64, 65, 66, 67, 68, 69, 70, 71, 72, 73, 74, 75, 76, 77, 78, 79, 80, 81, 82, 83, 84, 85, 86, 87, 88, 89, 90, 91, 92, 93, 94, 95, 96, 97, 98] (by decide +kernel) (by decide +kernel)
set_option maxRecDepth 20000 in
theorem gX5_steps_X5_stepsAsSeen : GoodIn wsX5_steps (wsV RX5 259 RX5 yX5_stepsAsSeen wsX5_stepsAsSeen) := goodIn_app (goodIn_of _ (by decide +kernel)) ggX5_steps_X5_stepsAsSeen
theorem dX5_steps_0 : decode cX5_steps 0 = .ok (.aload_n 0, 1) := by decide +kernel
theorem dX5_steps_1 : decode cX5_steps 1 = .ok (.iload_n 1, 1) := by decide +kernel
theorem dX5_steps_2 : decode cX5_steps 2 = .ok (.invokevirtual 136, 3) := by decide +kernel
theorem dX5_steps_5 : decode cX5_steps 5 = .ok (.ifCond .eq 11, 3) := by decide +kernel
theorem dX5_steps_8 : decode cX5_steps 8 = .ok (.aload_n 0, 1) := by decide +kernel
theorem dX5_steps_9 : decode cX5_steps 9 = .ok (.iload_n 1, 1) := by decide +kernel
theorem dX5_steps_10 : decode cX5_steps 10 = .ok (.invokevirtual 259, 3) := by decide +kernel
theorem dX5_steps_13 : decode cX5_steps 13 = .ok (.goto 4, 3) := by decide +kernel
theorem dX5_steps_16 : decode cX5_steps 16 = .ok (.iconst (-1), 1) := by decide +kernel
theorem dX5_steps_17 : decode cX5_steps 17 = .ok (.ireturn, 1) := by decide +kernel
set_option maxRecDepth 20000 in
theorem ggX5_ask_X5_hasWheel : GoodIn wsX5_ask wsX5_hasWheel := goodIn_r _ [9, 2, 10, 11, 12, 8, 13, 104, 105, 106, 107, 108, 109, 110, 111, 112, 113, 114, 115, 116, 117, 118, 119, 120, 121, 122, 123, 124] (by decide +kernel) (by decide +kernel)
set_option maxRecDepth 20000 in
theorem gX5_ask_X5_hasWheel : GoodIn wsX5_ask (wsV RX5 136 RX5 yX5_hasWheel wsX5_hasWheel) := goodIn_app (goodIn_of _ (by decide +kernel)) ggX5_ask_X5_hasWheel
set_option maxRecDepth 20000 in
theorem ggX5_ask_X5_isEither : GoodIn wsX5_ask wsX5_isEither := goodIn_r _ [16, 11, 12, 8, 13] (by decide +kernel) (by decide +kernel)
set_option maxRecDepth 20000 in
theorem gX5_ask_X5_isEither : GoodIn wsX5_ask (va_wsS RX5 211 yX5_isEither wsX5_isEither) := goodIn_app (goodIn_of _ (by decide +kernel)) ggX5_ask_X5_isEither
set_option maxRecDepth 20000 in
theorem ggX5_ask_X5_stepsAsSeen : GoodIn wsX5_ask wsX5_stepsAsSeen := goodIn_r _ [20, 21, 2, 22, 23, 24, 25, 26, 27, 28, 29, 30, 31, 32, 33, 34, 35, 36, 37, 38, 39, 40, 41, 42, 43, 44, 45, 46, 47, 48, 49, 50, 51, 52, 53, 54, 55, 56, 57, 58, 59, 60, 61, 62, 63, 64, 65, 66, 67, 68, 69, 70, 71, 72, 73, 74, 75, 76, 77, 78, 79, 104, 105, 106, 107, 108, 109, 110, 111, 112, 113, 114, 115, 116, 117, 118, 119, 120, 121, 122, 123, 124, 125, 126, 127, 128] (by decide +kernel) (by decide +kernel)
set_option maxRecDepth 20000 in
theorem gX5_ask_X5_stepsAsSeen : GoodIn wsX5_ask (wsV RX5 259 RX5 yX5_stepsAsSeen wsX5_stepsAsSeen) := goodIn_app (goodIn_of _ (by decide +kernel)) ggX5_ask_X5_stepsAsSeen
set_option maxRecDepth 20000 in
theorem ggX5_ask_J6_bitCount_0f7a4 : GoodIn wsX5_ask wsJ6_bitCount_0f7a4 := goodIn_r _ [83, 84, 85, 86] (by decide +kernel) (by decide +kernel)
set_option maxRecDepth 20000 in
theorem gX5_ask_J6_bitCount_0f7a4 : GoodIn wsX5_ask (va_wsS RX5 262 yJ6_bitCount_0f7a4 wsJ6_bitCount_0f7a4) := goodIn_app (goodIn_of _ (by decide +kernel)) ggX5_ask_J6_bitCount_0f7a4
set_option maxRecDepth 20000 in
theorem ggX5_ask_X5_mostAlike : GoodIn wsX5_ask wsX5_mostAlike := goodIn_r _ [90, 1, 91, 92, 78, 93, 94, 95, 96, 8, 97, 104, 105, 106, 107, 108, 109, 110, 111, 112, 113, 114] (by decide +kernel) (by decide +kernel)
set_option maxRecDepth 20000 in
theorem gX5_ask_X5_mostAlike : GoodIn wsX5_ask (wsV RX5 267 RX5 yX5_mostAlike wsX5_mostAlike) := goodIn_app (goodIn_of _ (by decide +kernel)) ggX5_ask_X5_mostAlike
set_option maxRecDepth 20000 in
theorem ggX5_ask_X0_sweepAhead : GoodIn wsX5_ask wsX0_sweepAhead := goodIn_r _ [60, 61, 62, 63, 27, 64, 35, 42, 65, 66, 67, 68, 29, 40, 34, 41, 115, 116, 117, 118, 119, 120, 121, 122, 123, 124] (by decide +kernel) (by decide +kernel)
set_option maxRecDepth 20000 in
theorem gX5_ask_X0_sweepAhead : GoodIn wsX5_ask (wsV RX5 187 RX0 yX0_sweepAhead wsX0_sweepAhead) := goodIn_app (goodIn_of _ (by decide +kernel)) ggX5_ask_X0_sweepAhead
set_option maxRecDepth 20000 in
theorem ggX5_ask_X5_rollEachStep : GoodIn wsX5_ask wsX5_rollEachStep := goodIn_r _ [102, 1, 103, 74, 27, 75, 76, 77, 78, 79, 104, 105, 106, 107, 108, 109, 110, 111, 112, 113, 114] (by decide +kernel) (by decide +kernel)
set_option maxRecDepth 20000 in
theorem gX5_ask_X5_rollEachStep : GoodIn wsX5_ask (wsV RX5 270 RX5 yX5_rollEachStep wsX5_rollEachStep) := goodIn_app (goodIn_of _ (by decide +kernel)) ggX5_ask_X5_rollEachStep
theorem dX5_ask_0 : decode cX5_ask 0 = .ok (.aload_n 0, 1) := by decide +kernel
theorem dX5_ask_1 : decode cX5_ask 1 = .ok (.iload_n 1, 1) := by decide +kernel
theorem dX5_ask_2 : decode cX5_ask 2 = .ok (.invokevirtual 136, 3) := by decide +kernel
theorem dX5_ask_5 : decode cX5_ask 5 = .ok (.ifCond .eq 10, 3) := by decide +kernel
theorem dX5_ask_8 : decode cX5_ask 8 = .ok (.iload_n 2, 1) := by decide +kernel
theorem dX5_ask_9 : decode cX5_ask 9 = .ok (.invokestatic 211, 3) := by decide +kernel
theorem dX5_ask_12 : decode cX5_ask 12 = .ok (.ifCond .ne 5, 3) := by decide +kernel
theorem dX5_ask_15 : decode cX5_ask 15 = .ok (.iconst (-1), 1) := by decide +kernel
theorem dX5_ask_16 : decode cX5_ask 16 = .ok (.ireturn, 1) := by decide +kernel
theorem dX5_ask_17 : decode cX5_ask 17 = .ok (.aload_n 0, 1) := by decide +kernel
theorem dX5_ask_18 : decode cX5_ask 18 = .ok (.iload_n 1, 1) := by decide +kernel
theorem dX5_ask_19 : decode cX5_ask 19 = .ok (.invokevirtual 259, 3) := by decide +kernel
theorem dX5_ask_22 : decode cX5_ask 22 = .ok (.istore_n 3, 1) := by decide +kernel
theorem dX5_ask_23 : decode cX5_ask 23 = .ok (.iload_n 3, 1) := by decide +kernel
theorem dX5_ask_24 : decode cX5_ask 24 = .ok (.invokestatic 262, 3) := by decide +kernel
theorem dX5_ask_27 : decode cX5_ask 27 = .ok (.istore 4, 2) := by decide +kernel
theorem dX5_ask_29 : decode cX5_ask 29 = .ok (.bipush (-4), 2) := by decide +kernel
theorem dX5_ask_31 : decode cX5_ask 31 = .ok (.istore 5, 2) := by decide +kernel
theorem dX5_ask_33 : decode cX5_ask 33 = .ok (.iconst 1, 1) := by decide +kernel
theorem dX5_ask_34 : decode cX5_ask 34 = .ok (.istore 6, 2) := by decide +kernel
theorem dX5_ask_36 : decode cX5_ask 36 = .ok (.iload 6, 2) := by decide +kernel
theorem dX5_ask_38 : decode cX5_ask 38 = .ok (.bipush 9, 2) := by decide +kernel
theorem dX5_ask_40 : decode cX5_ask 40 = .ok (.if_icmp .gt 25, 3) := by decide +kernel
theorem dX5_ask_43 : decode cX5_ask 43 = .ok (.aload_n 0, 1) := by decide +kernel
theorem dX5_ask_44 : decode cX5_ask 44 = .ok (.getfield 51, 3) := by decide +kernel
theorem dX5_ask_47 : decode cX5_ask 47 = .ok (.iload 6, 2) := by decide +kernel
theorem dX5_ask_49 : decode cX5_ask 49 = .ok (.aload_n 0, 1) := by decide +kernel
theorem dX5_ask_50 : decode cX5_ask 50 = .ok (.getfield 10, 3) := by decide +kernel
theorem dX5_ask_53 : decode cX5_ask 53 = .ok (.getfield 146, 3) := by decide +kernel
theorem dX5_ask_56 : decode cX5_ask 56 = .ok (.iload_n 1, 1) := by decide +kernel
theorem dX5_ask_57 : decode cX5_ask 57 = .ok (.iaload, 1) := by decide +kernel
theorem dX5_ask_58 : decode cX5_ask 58 = .ok (.iastore, 1) := by decide +kernel
theorem dX5_ask_59 : decode cX5_ask 59 = .ok (.iinc 6 1, 3) := by decide +kernel
theorem dX5_ask_62 : decode cX5_ask 62 = .ok (.goto (-26), 3) := by decide +kernel
theorem dX5_ask_65 : decode cX5_ask 65 = .ok (.iconst 0, 1) := by decide +kernel
theorem dX5_ask_66 : decode cX5_ask 66 = .ok (.istore 6, 2) := by decide +kernel
theorem dX5_ask_68 : decode cX5_ask 68 = .ok (.iload 6, 2) := by decide +kernel
theorem dX5_ask_70 : decode cX5_ask 70 = .ok (.bipush 40, 2) := by decide +kernel
theorem dX5_ask_72 : decode cX5_ask 72 = .ok (.if_icmp .gt 53, 3) := by decide +kernel
theorem dX5_ask_75 : decode cX5_ask 75 = .ok (.aload_n 0, 1) := by decide +kernel
theorem dX5_ask_76 : decode cX5_ask 76 = .ok (.iload_n 3, 1) := by decide +kernel
theorem dX5_ask_77 : decode cX5_ask 77 = .ok (.invokevirtual 267, 3) := by decide +kernel
theorem dX5_ask_80 : decode cX5_ask 80 = .ok (.istore 7, 2) := by decide +kernel
theorem dX5_ask_82 : decode cX5_ask 82 = .ok (.iload 7, 2) := by decide +kernel
theorem dX5_ask_84 : decode cX5_ask 84 = .ok (.iload 4, 2) := by decide +kernel
theorem dX5_ask_86 : decode cX5_ask 86 = .ok (.if_icmp .ge 11, 3) := by decide +kernel
theorem dX5_ask_89 : decode cX5_ask 89 = .ok (.iload 7, 2) := by decide +kernel
theorem dX5_ask_91 : decode cX5_ask 91 = .ok (.istore 4, 2) := by decide +kernel
theorem dX5_ask_93 : decode cX5_ask 93 = .ok (.iload 6, 2) := by decide +kernel
theorem dX5_ask_95 : decode cX5_ask 95 = .ok (.istore 5, 2) := by decide +kernel
theorem dX5_ask_97 : decode cX5_ask 97 = .ok (.aload_n 0, 1) := by decide +kernel
theorem dX5_ask_98 : decode cX5_ask 98 = .ok (.aload_n 0, 1) := by decide +kernel
theorem dX5_ask_99 : decode cX5_ask 99 = .ok (.getfield 10, 3) := by decide +kernel
theorem dX5_ask_102 : decode cX5_ask 102 = .ok (.getfield 139, 3) := by decide +kernel
theorem dX5_ask_105 : decode cX5_ask 105 = .ok (.iload_n 1, 1) := by decide +kernel
theorem dX5_ask_106 : decode cX5_ask 106 = .ok (.iaload, 1) := by decide +kernel
theorem dX5_ask_107 : decode cX5_ask 107 = .ok (.aload_n 0, 1) := by decide +kernel
theorem dX5_ask_108 : decode cX5_ask 108 = .ok (.getfield 10, 3) := by decide +kernel
theorem dX5_ask_111 : decode cX5_ask 111 = .ok (.iload 6, 2) := by decide +kernel
theorem dX5_ask_113 : decode cX5_ask 113 = .ok (.invokevirtual 187, 3) := by decide +kernel
theorem dX5_ask_116 : decode cX5_ask 116 = .ok (.invokevirtual 270, 3) := by decide +kernel
theorem dX5_ask_119 : decode cX5_ask 119 = .ok (.iinc 6 1, 3) := by decide +kernel
theorem dX5_ask_122 : decode cX5_ask 122 = .ok (.goto (-54), 3) := by decide +kernel
theorem dX5_ask_125 : decode cX5_ask 125 = .ok (.iload 5, 2) := by decide +kernel
theorem dX5_ask_127 : decode cX5_ask 127 = .ok (.bipush (-4), 2) := by decide +kernel
theorem dX5_ask_129 : decode cX5_ask 129 = .ok (.if_icmp .eq 7, 3) := by decide +kernel
theorem dX5_ask_132 : decode cX5_ask 132 = .ok (.iload_n 2, 1) := by decide +kernel
theorem dX5_ask_133 : decode cX5_ask 133 = .ok (.ifCond .ne 8, 3) := by decide +kernel
theorem dX5_ask_136 : decode cX5_ask 136 = .ok (.iload 5, 2) := by decide +kernel
theorem dX5_ask_138 : decode cX5_ask 138 = .ok (.goto 5, 3) := by decide +kernel
theorem dX5_ask_141 : decode cX5_ask 141 = .ok (.iload 4, 2) := by decide +kernel
theorem dX5_ask_143 : decode cX5_ask 143 = .ok (.ireturn, 1) := by decide +kernel
set_option maxRecDepth 20000 in
theorem ggX5_drift_X5_within : GoodIn wsX5_drift wsX5_within := goodIn_r _ [11] (by decide +kernel) (by decide +kernel)
set_option maxRecDepth 20000 in
theorem gX5_drift_X5_within : GoodIn wsX5_drift (va_wsS RX5 62 yX5_within wsX5_within) := goodIn_app (goodIn_of _ (by decide +kernel)) ggX5_drift_X5_within
set_option maxRecDepth 20000 in
theorem ggX5_drift_X5_isEither : GoodIn wsX5_drift wsX5_isEither := goodIn_r _ [14, 8, 9, 10, 11] (by decide +kernel) (by decide +kernel)
set_option maxRecDepth 20000 in
theorem gX5_drift_X5_isEither : GoodIn wsX5_drift (va_wsS RX5 211 yX5_isEither wsX5_isEither) := goodIn_app (goodIn_of _ (by decide +kernel)) ggX5_drift_X5_isEither
set_option maxRecDepth 20000 in
theorem ggX5_drift_X0_copyFrom : GoodIn wsX5_drift wsX0_copyFrom := goodIn_r _ [19, 20, 21, 22, 23, 24, 25, 26, 27, 28, 29, 30, 31, 32, 33, 68, 69, 70, 71, 72, 73, 74, 75, 76, 77] (by decide +kernel) (by decide +kernel)
set_option maxRecDepth 20000 in
theorem gX5_drift_X0_copyFrom : GoodIn wsX5_drift (wsV RX5 91 RX0 yX0_copyFrom wsX0_copyFrom) := goodIn_app (goodIn_of _ (by decide +kernel)) ggX5_drift_X0_copyFrom
set_option maxRecDepth 20000 in
theorem ggX5_drift_X0_sweepOf : GoodIn wsX5_drift wsX0_sweepOf := goodIn_r _ [37, 26, 20, 31, 25, 32, 68, 69, 70, 71, 72, 73, 74, 75, 76, 77] (by decide +kernel) (by decide +kernel)
set_option maxRecDepth 20000 in
theorem gX5_drift_X0_sweepOf : GoodIn wsX5_drift (wsV RX5 133 RX0 yX0_sweepOf wsX0_sweepOf) := goodIn_app (goodIn_of _ (by decide +kernel)) ggX5_drift_X0_sweepOf
set_option maxRecDepth 20000 in
theorem ggX5_drift_X0_rollAll : GoodIn wsX5_drift wsX0_rollAll := goodIn_r _ [41, 30, 29, 42, 43, 44, 18, 45, 27, 28, 46, 47, 48, 49, 50, 51, 52, 53, 54, 55, 56, 68, 69, 70, 71, 72, 73, 74, 75, 76, 77] (by decide +kernel) (by decide +kernel)
set_option maxRecDepth 20000 in
theorem gX5_drift_X0_rollAll : GoodIn wsX5_drift (wsV RX5 190 RX0 yX0_rollAll wsX0_rollAll) := goodIn_app (goodIn_of _ (by decide +kernel)) ggX5_drift_X0_rollAll
theorem dX5_drift_0 : decode cX5_drift 0 = .ok (.iload_n 2, 1) := by decide +kernel
theorem dX5_drift_1 : decode cX5_drift 1 = .ok (.iconst 1, 1) := by decide +kernel
theorem dX5_drift_2 : decode cX5_drift 2 = .ok (.sipush 200, 3) := by decide +kernel
theorem dX5_drift_5 : decode cX5_drift 5 = .ok (.invokestatic 62, 3) := by decide +kernel
theorem dX5_drift_8 : decode cX5_drift 8 = .ok (.ifCond .eq 10, 3) := by decide +kernel
theorem dX5_drift_11 : decode cX5_drift 11 = .ok (.iload_n 3, 1) := by decide +kernel
theorem dX5_drift_12 : decode cX5_drift 12 = .ok (.invokestatic 211, 3) := by decide +kernel
theorem dX5_drift_15 : decode cX5_drift 15 = .ok (.ifCond .ne 5, 3) := by decide +kernel
theorem dX5_drift_18 : decode cX5_drift 18 = .ok (.iconst (-1), 1) := by decide +kernel
theorem dX5_drift_19 : decode cX5_drift 19 = .ok (.ireturn, 1) := by decide +kernel
theorem dX5_drift_20 : decode cX5_drift 20 = .ok (.aload_n 0, 1) := by decide +kernel
theorem dX5_drift_21 : decode cX5_drift 21 = .ok (.getfield 10, 3) := by decide +kernel
theorem dX5_drift_24 : decode cX5_drift 24 = .ok (.getfield 99, 3) := by decide +kernel
theorem dX5_drift_27 : decode cX5_drift 27 = .ok (.istore 4, 2) := by decide +kernel
theorem dX5_drift_29 : decode cX5_drift 29 = .ok (.aload_n 0, 1) := by decide +kernel
theorem dX5_drift_30 : decode cX5_drift 30 = .ok (.getfield 10, 3) := by decide +kernel
theorem dX5_drift_33 : decode cX5_drift 33 = .ok (.getfield 102, 3) := by decide +kernel
theorem dX5_drift_36 : decode cX5_drift 36 = .ok (.ifCond .eq 8, 3) := by decide +kernel
theorem dX5_drift_39 : decode cX5_drift 39 = .ok (.iload 4, 2) := by decide +kernel
theorem dX5_drift_41 : decode cX5_drift 41 = .ok (.ifCond .ne 6, 3) := by decide +kernel
theorem dX5_drift_44 : decode cX5_drift 44 = .ok (.bipush (-2), 2) := by decide +kernel
theorem dX5_drift_46 : decode cX5_drift 46 = .ok (.ireturn, 1) := by decide +kernel
theorem dX5_drift_47 : decode cX5_drift 47 = .ok (.aload_n 0, 1) := by decide +kernel
theorem dX5_drift_48 : decode cX5_drift 48 = .ok (.getfield 16, 3) := by decide +kernel
theorem dX5_drift_51 : decode cX5_drift 51 = .ok (.aload_n 0, 1) := by decide +kernel
theorem dX5_drift_52 : decode cX5_drift 52 = .ok (.getfield 10, 3) := by decide +kernel
theorem dX5_drift_55 : decode cX5_drift 55 = .ok (.invokevirtual 91, 3) := by decide +kernel
theorem dX5_drift_58 : decode cX5_drift 58 = .ok (.iload_n 1, 1) := by decide +kernel
theorem dX5_drift_59 : decode cX5_drift 59 = .ok (.istore 5, 2) := by decide +kernel
theorem dX5_drift_61 : decode cX5_drift 61 = .ok (.iconst 0, 1) := by decide +kernel
theorem dX5_drift_62 : decode cX5_drift 62 = .ok (.istore 6, 2) := by decide +kernel
theorem dX5_drift_64 : decode cX5_drift 64 = .ok (.iconst 0, 1) := by decide +kernel
theorem dX5_drift_65 : decode cX5_drift 65 = .ok (.istore 7, 2) := by decide +kernel
theorem dX5_drift_67 : decode cX5_drift 67 = .ok (.iload 7, 2) := by decide +kernel
theorem dX5_drift_69 : decode cX5_drift 69 = .ok (.iload_n 2, 1) := by decide +kernel
theorem dX5_drift_70 : decode cX5_drift 70 = .ok (.if_icmp .ge 56, 3) := by decide +kernel
theorem dX5_drift_73 : decode cX5_drift 73 = .ok (.iload 5, 2) := by decide +kernel
theorem dX5_drift_75 : decode cX5_drift 75 = .ok (.ldc_w 273, 3) := by decide +kernel
theorem dX5_drift_78 : decode cX5_drift 78 = .ok (.imul, 1) := by decide +kernel
theorem dX5_drift_79 : decode cX5_drift 79 = .ok (.sipush 12345, 3) := by decide +kernel
theorem dX5_drift_82 : decode cX5_drift 82 = .ok (.iadd, 1) := by decide +kernel
theorem dX5_drift_83 : decode cX5_drift 83 = .ok (.istore 5, 2) := by decide +kernel
theorem dX5_drift_85 : decode cX5_drift 85 = .ok (.iload 5, 2) := by decide +kernel
theorem dX5_drift_87 : decode cX5_drift 87 = .ok (.bipush 16, 2) := by decide +kernel
theorem dX5_drift_89 : decode cX5_drift 89 = .ok (.iushr, 1) := by decide +kernel
theorem dX5_drift_90 : decode cX5_drift 90 = .ok (.sipush 32767, 3) := by decide +kernel
theorem dX5_drift_93 : decode cX5_drift 93 = .ok (.iand, 1) := by decide +kernel
theorem dX5_drift_94 : decode cX5_drift 94 = .ok (.istore 8, 2) := by decide +kernel
theorem dX5_drift_96 : decode cX5_drift 96 = .ok (.iload 6, 2) := by decide +kernel
theorem dX5_drift_98 : decode cX5_drift 98 = .ok (.aload_n 0, 1) := by decide +kernel
theorem dX5_drift_99 : decode cX5_drift 99 = .ok (.getfield 16, 3) := by decide +kernel
theorem dX5_drift_102 : decode cX5_drift 102 = .ok (.aload_n 0, 1) := by decide +kernel
theorem dX5_drift_103 : decode cX5_drift 103 = .ok (.getfield 16, 3) := by decide +kernel
theorem dX5_drift_106 : decode cX5_drift 106 = .ok (.iload 8, 2) := by decide +kernel
theorem dX5_drift_108 : decode cX5_drift 108 = .ok (.iload 4, 2) := by decide +kernel
theorem dX5_drift_110 : decode cX5_drift 110 = .ok (.irem, 1) := by decide +kernel
theorem dX5_drift_111 : decode cX5_drift 111 = .ok (.invokevirtual 133, 3) := by decide +kernel
theorem dX5_drift_114 : decode cX5_drift 114 = .ok (.invokevirtual 190, 3) := by decide +kernel
theorem dX5_drift_117 : decode cX5_drift 117 = .ok (.iadd, 1) := by decide +kernel
theorem dX5_drift_118 : decode cX5_drift 118 = .ok (.istore 6, 2) := by decide +kernel
theorem dX5_drift_120 : decode cX5_drift 120 = .ok (.iinc 7 1, 3) := by decide +kernel
theorem dX5_drift_123 : decode cX5_drift 123 = .ok (.goto (-56), 3) := by decide +kernel
theorem dX5_drift_126 : decode cX5_drift 126 = .ok (.iload_n 3, 1) := by decide +kernel
theorem dX5_drift_127 : decode cX5_drift 127 = .ok (.ifCond .ne 18, 3) := by decide +kernel
theorem dX5_drift_130 : decode cX5_drift 130 = .ok (.ldc 145, 2) := by decide +kernel
theorem dX5_drift_132 : decode cX5_drift 132 = .ok (.aload_n 0, 1) := by decide +kernel
theorem dX5_drift_133 : decode cX5_drift 133 = .ok (.getfield 16, 3) := by decide +kernel
theorem dX5_drift_136 : decode cX5_drift 136 = .ok (.getfield 146, 3) := by decide +kernel
theorem dX5_drift_139 : decode cX5_drift 139 = .ok (.iconst 0, 1) := by decide +kernel
theorem dX5_drift_140 : decode cX5_drift 140 = .ok (.iaload, 1) := by decide +kernel
theorem dX5_drift_141 : decode cX5_drift 141 = .ok (.iadd, 1) := by decide +kernel
theorem dX5_drift_142 : decode cX5_drift 142 = .ok (.goto 5, 3) := by decide +kernel
theorem dX5_drift_145 : decode cX5_drift 145 = .ok (.iload 6, 2) := by decide +kernel
theorem dX5_drift_147 : decode cX5_drift 147 = .ok (.ireturn, 1) := by decide +kernel
set_option maxRecDepth 20000 in
theorem ggX5_keep_X5_within : GoodIn wsX5_keep wsX5_within := goodIn_r _ [7] (by decide +kernel) (by decide +kernel)
set_option maxRecDepth 20000 in
theorem gX5_keep_X5_within : GoodIn wsX5_keep (va_wsS RX5 62 yX5_within wsX5_within) := goodIn_app (goodIn_of _ (by decide +kernel)) ggX5_keep_X5_within
set_option maxRecDepth 20000 in
theorem ggX5_keep_X0_copyFrom : GoodIn wsX5_keep wsX0_copyFrom := goodIn_r _ [12, 13, 14, 15, 16, 17, 18, 19, 20, 21, 22, 23, 24, 25, 26, 38, 39, 40, 41, 42, 43, 44, 45, 46, 47] (by decide +kernel) (by decide +kernel)
set_option maxRecDepth 20000 in
theorem gX5_keep_X0_copyFrom : GoodIn wsX5_keep (wsV RX5 91 RX0 yX0_copyFrom wsX0_copyFrom) := goodIn_app (goodIn_of _ (by decide +kernel)) ggX5_keep_X0_copyFrom
theorem dX5_keep_0 : decode cX5_keep 0 = .ok (.iload_n 1, 1) := by decide +kernel
theorem dX5_keep_1 : decode cX5_keep 1 = .ok (.iconst 0, 1) := by decide +kernel
theorem dX5_keep_2 : decode cX5_keep 2 = .ok (.iconst 1, 1) := by decide +kernel
theorem dX5_keep_3 : decode cX5_keep 3 = .ok (.invokestatic 62, 3) := by decide +kernel
theorem dX5_keep_6 : decode cX5_keep 6 = .ok (.ifCond .ne 5, 3) := by decide +kernel
theorem dX5_keep_9 : decode cX5_keep 9 = .ok (.iconst (-1), 1) := by decide +kernel
theorem dX5_keep_10 : decode cX5_keep 10 = .ok (.ireturn, 1) := by decide +kernel
theorem dX5_keep_11 : decode cX5_keep 11 = .ok (.aload_n 0, 1) := by decide +kernel
theorem dX5_keep_12 : decode cX5_keep 12 = .ok (.getfield 23, 3) := by decide +kernel
theorem dX5_keep_15 : decode cX5_keep 15 = .ok (.iload_n 1, 1) := by decide +kernel
theorem dX5_keep_16 : decode cX5_keep 16 = .ok (.baload, 1) := by decide +kernel
theorem dX5_keep_17 : decode cX5_keep 17 = .ok (.ifCond .eq 7, 3) := by decide +kernel
theorem dX5_keep_20 : decode cX5_keep 20 = .ok (.iconst 1, 1) := by decide +kernel
theorem dX5_keep_21 : decode cX5_keep 21 = .ok (.goto 4, 3) := by decide +kernel
theorem dX5_keep_24 : decode cX5_keep 24 = .ok (.iconst 0, 1) := by decide +kernel
theorem dX5_keep_25 : decode cX5_keep 25 = .ok (.istore_n 2, 1) := by decide +kernel
theorem dX5_keep_26 : decode cX5_keep 26 = .ok (.aload_n 0, 1) := by decide +kernel
theorem dX5_keep_27 : decode cX5_keep 27 = .ok (.getfield 19, 3) := by decide +kernel
theorem dX5_keep_30 : decode cX5_keep 30 = .ok (.iload_n 1, 1) := by decide +kernel
theorem dX5_keep_31 : decode cX5_keep 31 = .ok (.aaload, 1) := by decide +kernel
theorem dX5_keep_32 : decode cX5_keep 32 = .ok (.aload_n 0, 1) := by decide +kernel
theorem dX5_keep_33 : decode cX5_keep 33 = .ok (.getfield 10, 3) := by decide +kernel
theorem dX5_keep_36 : decode cX5_keep 36 = .ok (.invokevirtual 91, 3) := by decide +kernel
theorem dX5_keep_39 : decode cX5_keep 39 = .ok (.aload_n 0, 1) := by decide +kernel
theorem dX5_keep_40 : decode cX5_keep 40 = .ok (.getfield 23, 3) := by decide +kernel
theorem dX5_keep_43 : decode cX5_keep 43 = .ok (.iload_n 1, 1) := by decide +kernel
theorem dX5_keep_44 : decode cX5_keep 44 = .ok (.iconst 1, 1) := by decide +kernel
theorem dX5_keep_45 : decode cX5_keep 45 = .ok (.bastore, 1) := by decide +kernel
theorem dX5_keep_46 : decode cX5_keep 46 = .ok (.iload_n 2, 1) := by decide +kernel
theorem dX5_keep_47 : decode cX5_keep 47 = .ok (.ireturn, 1) := by decide +kernel
set_option maxRecDepth 20000 in
theorem ggX5_back_X5_within : GoodIn wsX5_back wsX5_within := goodIn_r _ [8] (by decide +kernel) (by decide +kernel)
set_option maxRecDepth 20000 in
theorem gX5_back_X5_within : GoodIn wsX5_back (va_wsS RX5 62 yX5_within wsX5_within) := goodIn_app (goodIn_of _ (by decide +kernel)) ggX5_back_X5_within
set_option maxRecDepth 20000 in
theorem ggX5_back_X0_copyFrom : GoodIn wsX5_back wsX0_copyFrom := goodIn_r _ [13, 14, 15, 16, 17, 18, 19, 20, 21, 22, 23, 24, 25, 26, 27, 39, 40, 41, 42, 43, 44, 45, 46, 47, 48] (by decide +kernel) (by decide +kernel)
set_option maxRecDepth 20000 in
theorem gX5_back_X0_copyFrom : GoodIn wsX5_back (wsV RX5 91 RX0 yX0_copyFrom wsX0_copyFrom) := goodIn_app (goodIn_of _ (by decide +kernel)) ggX5_back_X0_copyFrom
theorem dX5_back_0 : decode cX5_back 0 = .ok (.iload_n 1, 1) := by decide +kernel
theorem dX5_back_1 : decode cX5_back 1 = .ok (.iconst 0, 1) := by decide +kernel
theorem dX5_back_2 : decode cX5_back 2 = .ok (.iconst 1, 1) := by decide +kernel
theorem dX5_back_3 : decode cX5_back 3 = .ok (.invokestatic 62, 3) := by decide +kernel
theorem dX5_back_6 : decode cX5_back 6 = .ok (.ifCond .ne 5, 3) := by decide +kernel
theorem dX5_back_9 : decode cX5_back 9 = .ok (.iconst (-1), 1) := by decide +kernel
theorem dX5_back_10 : decode cX5_back 10 = .ok (.ireturn, 1) := by decide +kernel
theorem dX5_back_11 : decode cX5_back 11 = .ok (.aload_n 0, 1) := by decide +kernel
theorem dX5_back_12 : decode cX5_back 12 = .ok (.getfield 23, 3) := by decide +kernel
theorem dX5_back_15 : decode cX5_back 15 = .ok (.iload_n 1, 1) := by decide +kernel
theorem dX5_back_16 : decode cX5_back 16 = .ok (.baload, 1) := by decide +kernel
theorem dX5_back_17 : decode cX5_back 17 = .ok (.ifCond .ne 6, 3) := by decide +kernel
theorem dX5_back_20 : decode cX5_back 20 = .ok (.bipush (-2), 2) := by decide +kernel
theorem dX5_back_22 : decode cX5_back 22 = .ok (.ireturn, 1) := by decide +kernel
theorem dX5_back_23 : decode cX5_back 23 = .ok (.aload_n 0, 1) := by decide +kernel
theorem dX5_back_24 : decode cX5_back 24 = .ok (.getfield 10, 3) := by decide +kernel
theorem dX5_back_27 : decode cX5_back 27 = .ok (.aload_n 0, 1) := by decide +kernel
theorem dX5_back_28 : decode cX5_back 28 = .ok (.getfield 19, 3) := by decide +kernel
theorem dX5_back_31 : decode cX5_back 31 = .ok (.iload_n 1, 1) := by decide +kernel
theorem dX5_back_32 : decode cX5_back 32 = .ok (.aaload, 1) := by decide +kernel
theorem dX5_back_33 : decode cX5_back 33 = .ok (.invokevirtual 91, 3) := by decide +kernel
theorem dX5_back_36 : decode cX5_back 36 = .ok (.aload_n 0, 1) := by decide +kernel
theorem dX5_back_37 : decode cX5_back 37 = .ok (.getfield 10, 3) := by decide +kernel
theorem dX5_back_40 : decode cX5_back 40 = .ok (.getfield 105, 3) := by decide +kernel
theorem dX5_back_43 : decode cX5_back 43 = .ok (.ireturn, 1) := by decide +kernel
set_option maxRecDepth 20000 in
theorem ggX5_sheet_X5_isSheet : GoodIn wsX5_sheet wsX5_isSheet := goodIn_r _ [5, 6, 7, 4, 8] (by decide +kernel) (by decide +kernel)
set_option maxRecDepth 20000 in
theorem gX5_sheet_X5_isSheet : GoodIn wsX5_sheet (va_wsS RX5 274 yX5_isSheet wsX5_isSheet) := goodIn_app (goodIn_of _ (by decide +kernel)) ggX5_sheet_X5_isSheet
set_option maxRecDepth 20000 in
theorem ggX5_sheet_X5_isLane : GoodIn wsX5_sheet wsX5_isLane := goodIn_r _ [11, 6, 7, 4, 8] (by decide +kernel) (by decide +kernel)
set_option maxRecDepth 20000 in
theorem gX5_sheet_X5_isLane : GoodIn wsX5_sheet (va_wsS RX5 277 yX5_isLane wsX5_isLane) := goodIn_app (goodIn_of _ (by decide +kernel)) ggX5_sheet_X5_isLane
set_option maxRecDepth 20000 in
theorem ggX5_sheet_X1_renew : GoodIn wsX5_sheet wsX1_renew := goodIn_r _ [16, 17, 18, 19, 31, 32, 33] (by decide +kernel) (by decide +kernel)
set_option maxRecDepth 20000 in
theorem gX5_sheet_X1_renew : GoodIn wsX5_sheet (wsV RX5 280 RX1 yX1_renew wsX1_renew) := goodIn_app (goodIn_of _ (by decide +kernel)) ggX5_sheet_X1_renew
theorem dX5_sheet_0 : decode cX5_sheet 0 = .ok (.iload_n 1, 1) := by decide +kernel
theorem dX5_sheet_1 : decode cX5_sheet 1 = .ok (.invokestatic 274, 3) := by decide +kernel
theorem dX5_sheet_4 : decode cX5_sheet 4 = .ok (.ifCond .eq 16, 3) := by decide +kernel
theorem dX5_sheet_7 : decode cX5_sheet 7 = .ok (.iload_n 2, 1) := by decide +kernel
theorem dX5_sheet_8 : decode cX5_sheet 8 = .ok (.invokestatic 277, 3) := by decide +kernel
theorem dX5_sheet_11 : decode cX5_sheet 11 = .ok (.ifCond .eq 9, 3) := by decide +kernel
theorem dX5_sheet_14 : decode cX5_sheet 14 = .ok (.iload_n 3, 1) := by decide +kernel
theorem dX5_sheet_15 : decode cX5_sheet 15 = .ok (.bipush 40, 2) := by decide +kernel
theorem dX5_sheet_17 : decode cX5_sheet 17 = .ok (.if_icmp .le 5, 3) := by decide +kernel
theorem dX5_sheet_20 : decode cX5_sheet 20 = .ok (.iconst (-1), 1) := by decide +kernel
theorem dX5_sheet_21 : decode cX5_sheet 21 = .ok (.ireturn, 1) := by decide +kernel
theorem dX5_sheet_22 : decode cX5_sheet 22 = .ok (.iload_n 3, 1) := by decide +kernel
theorem dX5_sheet_23 : decode cX5_sheet 23 = .ok (.ifCond .ge 6, 3) := by decide +kernel
theorem dX5_sheet_26 : decode cX5_sheet 26 = .ok (.bipush (-14), 2) := by decide +kernel
theorem dX5_sheet_28 : decode cX5_sheet 28 = .ok (.ireturn, 1) := by decide +kernel
theorem dX5_sheet_29 : decode cX5_sheet 29 = .ok (.aload_n 0, 1) := by decide +kernel
theorem dX5_sheet_30 : decode cX5_sheet 30 = .ok (.getfield 43, 3) := by decide +kernel
theorem dX5_sheet_33 : decode cX5_sheet 33 = .ok (.iload_n 1, 1) := by decide +kernel
theorem dX5_sheet_34 : decode cX5_sheet 34 = .ok (.aaload, 1) := by decide +kernel
theorem dX5_sheet_35 : decode cX5_sheet 35 = .ok (.iload_n 2, 1) := by decide +kernel
theorem dX5_sheet_36 : decode cX5_sheet 36 = .ok (.iload_n 3, 1) := by decide +kernel
theorem dX5_sheet_37 : decode cX5_sheet 37 = .ok (.invokevirtual 280, 3) := by decide +kernel
theorem dX5_sheet_40 : decode cX5_sheet 40 = .ok (.iconst 1, 1) := by decide +kernel
theorem dX5_sheet_41 : decode cX5_sheet 41 = .ok (.ireturn, 1) := by decide +kernel
set_option maxRecDepth 20000 in
theorem ggX5_lay_X5_isSheet : GoodIn wsX5_lay wsX5_isSheet := goodIn_r _ [6, 7, 8, 5, 9] (by decide +kernel) (by decide +kernel)
set_option maxRecDepth 20000 in
theorem gX5_lay_X5_isSheet : GoodIn wsX5_lay (va_wsS RX5 274 yX5_isSheet wsX5_isSheet) := goodIn_app (goodIn_of _ (by decide +kernel)) ggX5_lay_X5_isSheet
set_option maxRecDepth 20000 in
theorem ggX5_lay_X1_faultAt : GoodIn wsX5_lay wsX1_faultAt := goodIn_r _ [14, 15, 16, 17, 18, 19, 13, 20, 8, 5, 9, 37, 38, 39] (by decide +kernel) (by decide +kernel)
set_option maxRecDepth 20000 in
theorem gX5_lay_X1_faultAt : GoodIn wsX5_lay (wsV RX5 286 RX1 yX1_faultAt wsX1_faultAt) := goodIn_app (goodIn_of _ (by decide +kernel)) ggX5_lay_X1_faultAt
set_option maxRecDepth 20000 in
theorem ggX5_lay_X1_layCell : GoodIn wsX5_lay wsX1_layCell := goodIn_r _ [24, 15, 25, 37, 38, 39] (by decide +kernel) (by decide +kernel)
set_option maxRecDepth 20000 in
theorem gX5_lay_X1_layCell : GoodIn wsX5_lay (wsV RX5 289 RX1 yX1_layCell wsX1_layCell) := goodIn_app (goodIn_of _ (by decide +kernel)) ggX5_lay_X1_layCell
theorem dX5_lay_0 : decode cX5_lay 0 = .ok (.iload_n 1, 1) := by decide +kernel
theorem dX5_lay_1 : decode cX5_lay 1 = .ok (.invokestatic 274, 3) := by decide +kernel
theorem dX5_lay_4 : decode cX5_lay 4 = .ok (.ifCond .ne 5, 3) := by decide +kernel
theorem dX5_lay_7 : decode cX5_lay 7 = .ok (.iconst (-1), 1) := by decide +kernel
theorem dX5_lay_8 : decode cX5_lay 8 = .ok (.ireturn, 1) := by decide +kernel
theorem dX5_lay_9 : decode cX5_lay 9 = .ok (.aload_n 0, 1) := by decide +kernel
theorem dX5_lay_10 : decode cX5_lay 10 = .ok (.getfield 43, 3) := by decide +kernel
theorem dX5_lay_13 : decode cX5_lay 13 = .ok (.iload_n 1, 1) := by decide +kernel
theorem dX5_lay_14 : decode cX5_lay 14 = .ok (.aaload, 1) := by decide +kernel
theorem dX5_lay_15 : decode cX5_lay 15 = .ok (.astore 4, 2) := by decide +kernel
theorem dX5_lay_17 : decode cX5_lay 17 = .ok (.aload 4, 2) := by decide +kernel
theorem dX5_lay_19 : decode cX5_lay 19 = .ok (.aload 4, 2) := by decide +kernel
theorem dX5_lay_21 : decode cX5_lay 21 = .ok (.getfield 283, 3) := by decide +kernel
theorem dX5_lay_24 : decode cX5_lay 24 = .ok (.iload_n 2, 1) := by decide +kernel
theorem dX5_lay_25 : decode cX5_lay 25 = .ok (.invokevirtual 286, 3) := by decide +kernel
theorem dX5_lay_28 : decode cX5_lay 28 = .ok (.istore 5, 2) := by decide +kernel
theorem dX5_lay_30 : decode cX5_lay 30 = .ok (.iload 5, 2) := by decide +kernel
theorem dX5_lay_32 : decode cX5_lay 32 = .ok (.ifCond .eq 9, 3) := by decide +kernel
theorem dX5_lay_35 : decode cX5_lay 35 = .ok (.bipush (-10), 2) := by decide +kernel
theorem dX5_lay_37 : decode cX5_lay 37 = .ok (.iload 5, 2) := by decide +kernel
theorem dX5_lay_39 : decode cX5_lay 39 = .ok (.isub, 1) := by decide +kernel
theorem dX5_lay_40 : decode cX5_lay 40 = .ok (.ireturn, 1) := by decide +kernel
theorem dX5_lay_41 : decode cX5_lay 41 = .ok (.aload 4, 2) := by decide +kernel
theorem dX5_lay_43 : decode cX5_lay 43 = .ok (.iload_n 2, 1) := by decide +kernel
theorem dX5_lay_44 : decode cX5_lay 44 = .ok (.iload_n 3, 1) := by decide +kernel
theorem dX5_lay_45 : decode cX5_lay 45 = .ok (.invokevirtual 289, 3) := by decide +kernel
theorem dX5_lay_48 : decode cX5_lay 48 = .ok (.iconst 1, 1) := by decide +kernel
theorem dX5_lay_49 : decode cX5_lay 49 = .ok (.ireturn, 1) := by decide +kernel
set_option maxRecDepth 20000 in
theorem ggX5_read_X5_isSheet : GoodIn wsX5_read wsX5_isSheet := goodIn_r _ [10, 11, 12, 9, 13] (by decide +kernel) (by decide +kernel)
set_option maxRecDepth 20000 in
theorem gX5_read_X5_isSheet : GoodIn wsX5_read (va_wsS RX5 274 yX5_isSheet wsX5_isSheet) := goodIn_app (goodIn_of _ (by decide +kernel)) ggX5_read_X5_isSheet
set_option maxRecDepth 20000 in
theorem ggX5_read_X5_isLane : GoodIn wsX5_read wsX5_isLane := goodIn_r _ [16, 11, 12, 9, 13] (by decide +kernel) (by decide +kernel)
set_option maxRecDepth 20000 in
theorem gX5_read_X5_isLane : GoodIn wsX5_read (va_wsS RX5 277 yX5_isLane wsX5_isLane) := goodIn_app (goodIn_of _ (by decide +kernel)) ggX5_read_X5_isLane
set_option maxRecDepth 20000 in
theorem ggX5_read_X5_within : GoodIn wsX5_read wsX5_within := goodIn_r _ [13] (by decide +kernel) (by decide +kernel)
set_option maxRecDepth 20000 in
theorem gX5_read_X5_within : GoodIn wsX5_read (va_wsS RX5 62 yX5_within wsX5_within) := goodIn_app (goodIn_of _ (by decide +kernel)) ggX5_read_X5_within
set_option maxRecDepth 20000 in
theorem ggX5_read_X0_copyFrom : GoodIn wsX5_read wsX0_copyFrom := goodIn_r _ [21, 22, 23, 24, 25, 26, 27, 28, 29, 30, 31, 32, 33, 34, 35, 75, 76, 77, 78, 79, 80, 81, 82, 83, 84] (by decide +kernel) (by decide +kernel)
set_option maxRecDepth 20000 in
theorem gX5_read_X0_copyFrom : GoodIn wsX5_read (wsV RX5 91 RX0 yX0_copyFrom wsX0_copyFrom) := goodIn_app (goodIn_of _ (by decide +kernel)) ggX5_read_X0_copyFrom
set_option maxRecDepth 20000 in
theorem ggX5_read_X1_faultAtPair : GoodIn wsX5_read wsX1_faultAtPair := goodIn_r _ [40, 41, 42, 43, 39, 44, 45, 46, 47, 48, 49, 50, 12, 9, 13, 72, 73, 74] (by decide +kernel) (by decide +kernel)
set_option maxRecDepth 20000 in
theorem gX5_read_X1_faultAtPair : GoodIn wsX5_read (wsV RX5 292 RX1 yX1_faultAtPair wsX1_faultAtPair) := goodIn_app (goodIn_of _ (by decide +kernel)) ggX5_read_X1_faultAtPair
set_option maxRecDepth 20000 in
theorem ggX5_read_X5_refusalOfCorner : GoodIn wsX5_read wsX5_refusalOfCorner := goodIn_r _ [53, 5, 54, 55, 9, 56, 11, 12, 13, 75, 76, 77, 78, 79, 80, 81, 82, 83, 84] (by decide +kernel) (by decide +kernel)
set_option maxRecDepth 20000 in
theorem gX5_read_X5_refusalOfCorner : GoodIn wsX5_read (va_wsS RX5 177 yX5_refusalOfCorner wsX5_refusalOfCorner) := goodIn_app (goodIn_of _ (by decide +kernel)) ggX5_read_X5_refusalOfCorner
set_option maxRecDepth 20000 in
theorem ggX5_read_X0_appendCorner : GoodIn wsX5_read wsX0_appendCorner := goodIn_r _ [60, 28, 22, 27, 75, 76, 77, 78, 79, 80, 81, 82, 83, 84] (by decide +kernel) (by decide +kernel)
set_option maxRecDepth 20000 in
theorem gX5_read_X0_appendCorner : GoodIn wsX5_read (wsV RX5 181 RX0 yX0_appendCorner wsX0_appendCorner) := goodIn_app (goodIn_of _ (by decide +kernel)) ggX5_read_X0_appendCorner
theorem dX5_read_0 : decode cX5_read 0 = .ok (.iload_n 1, 1) := by decide +kernel
theorem dX5_read_1 : decode cX5_read 1 = .ok (.invokestatic 274, 3) := by decide +kernel
theorem dX5_read_4 : decode cX5_read 4 = .ok (.ifCond .eq 21, 3) := by decide +kernel
theorem dX5_read_7 : decode cX5_read 7 = .ok (.iload_n 2, 1) := by decide +kernel
theorem dX5_read_8 : decode cX5_read 8 = .ok (.invokestatic 277, 3) := by decide +kernel
theorem dX5_read_11 : decode cX5_read 11 = .ok (.ifCond .eq 14, 3) := by decide +kernel
theorem dX5_read_14 : decode cX5_read 14 = .ok (.iload 4, 2) := by decide +kernel
theorem dX5_read_16 : decode cX5_read 16 = .ok (.iconst 0, 1) := by decide +kernel
theorem dX5_read_17 : decode cX5_read 17 = .ok (.bipush 20, 2) := by decide +kernel
theorem dX5_read_19 : decode cX5_read 19 = .ok (.invokestatic 62, 3) := by decide +kernel
theorem dX5_read_22 : decode cX5_read 22 = .ok (.ifCond .ne 5, 3) := by decide +kernel
theorem dX5_read_25 : decode cX5_read 25 = .ok (.iconst (-1), 1) := by decide +kernel
theorem dX5_read_26 : decode cX5_read 26 = .ok (.ireturn, 1) := by decide +kernel
theorem dX5_read_27 : decode cX5_read 27 = .ok (.aload_n 0, 1) := by decide +kernel
theorem dX5_read_28 : decode cX5_read 28 = .ok (.getfield 43, 3) := by decide +kernel
theorem dX5_read_31 : decode cX5_read 31 = .ok (.iload_n 1, 1) := by decide +kernel
theorem dX5_read_32 : decode cX5_read 32 = .ok (.aaload, 1) := by decide +kernel
theorem dX5_read_33 : decode cX5_read 33 = .ok (.astore 5, 2) := by decide +kernel
theorem dX5_read_35 : decode cX5_read 35 = .ok (.aload_n 0, 1) := by decide +kernel
theorem dX5_read_36 : decode cX5_read 36 = .ok (.getfield 16, 3) := by decide +kernel
theorem dX5_read_39 : decode cX5_read 39 = .ok (.aload_n 0, 1) := by decide +kernel
theorem dX5_read_40 : decode cX5_read 40 = .ok (.getfield 10, 3) := by decide +kernel
theorem dX5_read_43 : decode cX5_read 43 = .ok (.invokevirtual 91, 3) := by decide +kernel
theorem dX5_read_46 : decode cX5_read 46 = .ok (.iconst 0, 1) := by decide +kernel
theorem dX5_read_47 : decode cX5_read 47 = .ok (.istore 6, 2) := by decide +kernel
theorem dX5_read_49 : decode cX5_read 49 = .ok (.iconst 0, 1) := by decide +kernel
theorem dX5_read_50 : decode cX5_read 50 = .ok (.istore 7, 2) := by decide +kernel
theorem dX5_read_52 : decode cX5_read 52 = .ok (.iload 7, 2) := by decide +kernel
theorem dX5_read_54 : decode cX5_read 54 = .ok (.iload 4, 2) := by decide +kernel
theorem dX5_read_56 : decode cX5_read 56 = .ok (.if_icmp .ge 90, 3) := by decide +kernel
theorem dX5_read_59 : decode cX5_read 59 = .ok (.iload 6, 2) := by decide +kernel
theorem dX5_read_61 : decode cX5_read 61 = .ok (.ifCond .ne 85, 3) := by decide +kernel
theorem dX5_read_64 : decode cX5_read 64 = .ok (.iload_n 3, 1) := by decide +kernel
theorem dX5_read_65 : decode cX5_read 65 = .ok (.iconst 2, 1) := by decide +kernel
theorem dX5_read_66 : decode cX5_read 66 = .ok (.iload 7, 2) := by decide +kernel
theorem dX5_read_68 : decode cX5_read 68 = .ok (.imul, 1) := by decide +kernel
theorem dX5_read_69 : decode cX5_read 69 = .ok (.iadd, 1) := by decide +kernel
theorem dX5_read_70 : decode cX5_read 70 = .ok (.istore 8, 2) := by decide +kernel
theorem dX5_read_72 : decode cX5_read 72 = .ok (.aload 5, 2) := by decide +kernel
theorem dX5_read_74 : decode cX5_read 74 = .ok (.iload_n 2, 1) := by decide +kernel
theorem dX5_read_75 : decode cX5_read 75 = .ok (.iload 8, 2) := by decide +kernel
theorem dX5_read_77 : decode cX5_read 77 = .ok (.invokevirtual 292, 3) := by decide +kernel
theorem dX5_read_80 : decode cX5_read 80 = .ok (.istore 6, 2) := by decide +kernel
theorem dX5_read_82 : decode cX5_read 82 = .ok (.iload 6, 2) := by decide +kernel
theorem dX5_read_84 : decode cX5_read 84 = .ok (.ifCond .ne 56, 3) := by decide +kernel
theorem dX5_read_87 : decode cX5_read 87 = .ok (.aload 5, 2) := by decide +kernel
theorem dX5_read_89 : decode cX5_read 89 = .ok (.getfield 295, 3) := by decide +kernel
theorem dX5_read_92 : decode cX5_read 92 = .ok (.iload 8, 2) := by decide +kernel
theorem dX5_read_94 : decode cX5_read 94 = .ok (.iaload, 1) := by decide +kernel
theorem dX5_read_95 : decode cX5_read 95 = .ok (.istore 9, 2) := by decide +kernel
theorem dX5_read_97 : decode cX5_read 97 = .ok (.aload 5, 2) := by decide +kernel
theorem dX5_read_99 : decode cX5_read 99 = .ok (.getfield 295, 3) := by decide +kernel
theorem dX5_read_102 : decode cX5_read 102 = .ok (.iload 8, 2) := by decide +kernel
theorem dX5_read_104 : decode cX5_read 104 = .ok (.iconst 1, 1) := by decide +kernel
theorem dX5_read_105 : decode cX5_read 105 = .ok (.iadd, 1) := by decide +kernel
theorem dX5_read_106 : decode cX5_read 106 = .ok (.iaload, 1) := by decide +kernel
theorem dX5_read_107 : decode cX5_read 107 = .ok (.istore 10, 2) := by decide +kernel
theorem dX5_read_109 : decode cX5_read 109 = .ok (.aload_n 0, 1) := by decide +kernel
theorem dX5_read_110 : decode cX5_read 110 = .ok (.getfield 16, 3) := by decide +kernel
theorem dX5_read_113 : decode cX5_read 113 = .ok (.iload 9, 2) := by decide +kernel
theorem dX5_read_115 : decode cX5_read 115 = .ok (.iload 10, 2) := by decide +kernel
theorem dX5_read_117 : decode cX5_read 117 = .ok (.invokestatic 177, 3) := by decide +kernel
theorem dX5_read_120 : decode cX5_read 120 = .ok (.ifCond .eq 9, 3) := by decide +kernel
theorem dX5_read_123 : decode cX5_read 123 = .ok (.bipush (-20), 2) := by decide +kernel
theorem dX5_read_125 : decode cX5_read 125 = .ok (.iload 7, 2) := by decide +kernel
theorem dX5_read_127 : decode cX5_read 127 = .ok (.isub, 1) := by decide +kernel
theorem dX5_read_128 : decode cX5_read 128 = .ok (.ireturn, 1) := by decide +kernel
theorem dX5_read_129 : decode cX5_read 129 = .ok (.aload_n 0, 1) := by decide +kernel
theorem dX5_read_130 : decode cX5_read 130 = .ok (.getfield 16, 3) := by decide +kernel
theorem dX5_read_133 : decode cX5_read 133 = .ok (.iload 9, 2) := by decide +kernel
theorem dX5_read_135 : decode cX5_read 135 = .ok (.iload 10, 2) := by decide +kernel
theorem dX5_read_137 : decode cX5_read 137 = .ok (.invokevirtual 181, 3) := by decide +kernel
theorem dX5_read_140 : decode cX5_read 140 = .ok (.iinc 7 1, 3) := by decide +kernel
theorem dX5_read_143 : decode cX5_read 143 = .ok (.goto (-91), 3) := by decide +kernel
theorem dX5_read_146 : decode cX5_read 146 = .ok (.aload_n 0, 1) := by decide +kernel
theorem dX5_read_147 : decode cX5_read 147 = .ok (.getfield 16, 3) := by decide +kernel
theorem dX5_read_150 : decode cX5_read 150 = .ok (.getfield 99, 3) := by decide +kernel
theorem dX5_read_153 : decode cX5_read 153 = .ok (.aload_n 0, 1) := by decide +kernel
theorem dX5_read_154 : decode cX5_read 154 = .ok (.getfield 10, 3) := by decide +kernel
theorem dX5_read_157 : decode cX5_read 157 = .ok (.getfield 99, 3) := by decide +kernel
theorem dX5_read_160 : decode cX5_read 160 = .ok (.isub, 1) := by decide +kernel
theorem dX5_read_161 : decode cX5_read 161 = .ok (.istore 7, 2) := by decide +kernel
theorem dX5_read_163 : decode cX5_read 163 = .ok (.aload_n 0, 1) := by decide +kernel
theorem dX5_read_164 : decode cX5_read 164 = .ok (.getfield 10, 3) := by decide +kernel
theorem dX5_read_167 : decode cX5_read 167 = .ok (.aload_n 0, 1) := by decide +kernel
theorem dX5_read_168 : decode cX5_read 168 = .ok (.getfield 16, 3) := by decide +kernel
theorem dX5_read_171 : decode cX5_read 171 = .ok (.invokevirtual 91, 3) := by decide +kernel
theorem dX5_read_174 : decode cX5_read 174 = .ok (.aload_n 0, 1) := by decide +kernel
theorem dX5_read_175 : decode cX5_read 175 = .ok (.iload 6, 2) := by decide +kernel
theorem dX5_read_177 : decode cX5_read 177 = .ok (.putfield 58, 3) := by decide +kernel
theorem dX5_read_180 : decode cX5_read 180 = .ok (.iload 7, 2) := by decide +kernel
theorem dX5_read_182 : decode cX5_read 182 = .ok (.ireturn, 1) := by decide +kernel
theorem dX5_torn_0 : decode cX5_torn 0 = .ok (.aload_n 0, 1) := by decide +kernel
theorem dX5_torn_1 : decode cX5_torn 1 = .ok (.getfield 58, 3) := by decide +kernel
theorem dX5_torn_4 : decode cX5_torn 4 = .ok (.ireturn, 1) := by decide +kernel
set_option maxRecDepth 20000 in
theorem ggX5_count_X1_isNothing : GoodIn wsX5_count wsX1_isNothing := goodIn_r _ [14, 15, 56, 57, 58] (by decide +kernel) (by decide +kernel)
set_option maxRecDepth 20000 in
theorem gX5_count_X1_isNothing : GoodIn wsX5_count (wsV RX5 298 RX1 yX1_isNothing wsX1_isNothing) := goodIn_app (goodIn_of _ (by decide +kernel)) ggX5_count_X1_isNothing
set_option maxRecDepth 20000 in
theorem ggX5_count_X0_sumOfSteps : GoodIn wsX5_count wsX0_sumOfSteps := goodIn_r _ [20, 21, 22, 59, 60, 61, 62, 63, 64, 65, 66, 67, 68] (by decide +kernel) (by decide +kernel)
set_option maxRecDepth 20000 in
theorem gX5_count_X0_sumOfSteps : GoodIn wsX5_count (wsV RX5 303 RX0 yX0_sumOfSteps wsX0_sumOfSteps) := goodIn_app (goodIn_of _ (by decide +kernel)) ggX5_count_X0_sumOfSteps
set_option maxRecDepth 20000 in
theorem ggX5_count_X0_sumOfPlaces : GoodIn wsX5_count wsX0_sumOfPlaces := goodIn_r _ [26, 27, 28, 29, 59, 60, 61, 62, 63, 64, 65, 66, 67, 68] (by decide +kernel) (by decide +kernel)
set_option maxRecDepth 20000 in
theorem gX5_count_X0_sumOfPlaces : GoodIn wsX5_count (wsV RX5 306 RX0 yX0_sumOfPlaces wsX0_sumOfPlaces) := goodIn_app (goodIn_of _ (by decide +kernel)) ggX5_count_X0_sumOfPlaces
theorem dX5_count_0 : decode cX5_count 0 = .ok (.iload_n 1, 1) := by decide +kernel
theorem dX5_count_1 : decode cX5_count 1 = .ok (.tableswitch 131 0 5 #[39, 47, 77, 88, 115, 123], 39) := by decide +kernel
theorem dX5_count_40 : decode cX5_count 40 = .ok (.aload_n 0, 1) := by decide +kernel
theorem dX5_count_41 : decode cX5_count 41 = .ok (.getfield 37, 3) := by decide +kernel
theorem dX5_count_44 : decode cX5_count 44 = .ok (.getfield 95, 3) := by decide +kernel
theorem dX5_count_47 : decode cX5_count 47 = .ok (.ireturn, 1) := by decide +kernel
theorem dX5_count_48 : decode cX5_count 48 = .ok (.aload_n 0, 1) := by decide +kernel
theorem dX5_count_49 : decode cX5_count 49 = .ok (.getfield 23, 3) := by decide +kernel
theorem dX5_count_52 : decode cX5_count 52 = .ok (.iconst 0, 1) := by decide +kernel
theorem dX5_count_53 : decode cX5_count 53 = .ok (.baload, 1) := by decide +kernel
theorem dX5_count_54 : decode cX5_count 54 = .ok (.ifCond .eq 7, 3) := by decide +kernel
theorem dX5_count_57 : decode cX5_count 57 = .ok (.iconst 1, 1) := by decide +kernel
theorem dX5_count_58 : decode cX5_count 58 = .ok (.goto 4, 3) := by decide +kernel
theorem dX5_count_61 : decode cX5_count 61 = .ok (.iconst 0, 1) := by decide +kernel
theorem dX5_count_62 : decode cX5_count 62 = .ok (.aload_n 0, 1) := by decide +kernel
theorem dX5_count_63 : decode cX5_count 63 = .ok (.getfield 23, 3) := by decide +kernel
theorem dX5_count_66 : decode cX5_count 66 = .ok (.iconst 1, 1) := by decide +kernel
theorem dX5_count_67 : decode cX5_count 67 = .ok (.baload, 1) := by decide +kernel
theorem dX5_count_68 : decode cX5_count 68 = .ok (.ifCond .eq 7, 3) := by decide +kernel
theorem dX5_count_71 : decode cX5_count 71 = .ok (.iconst 1, 1) := by decide +kernel
theorem dX5_count_72 : decode cX5_count 72 = .ok (.goto 4, 3) := by decide +kernel
theorem dX5_count_75 : decode cX5_count 75 = .ok (.iconst 0, 1) := by decide +kernel
theorem dX5_count_76 : decode cX5_count 76 = .ok (.iadd, 1) := by decide +kernel
theorem dX5_count_77 : decode cX5_count 77 = .ok (.ireturn, 1) := by decide +kernel
theorem dX5_count_78 : decode cX5_count 78 = .ok (.aload_n 0, 1) := by decide +kernel
theorem dX5_count_79 : decode cX5_count 79 = .ok (.getfield 30, 3) := by decide +kernel
theorem dX5_count_82 : decode cX5_count 82 = .ok (.getfield 66, 3) := by decide +kernel
theorem dX5_count_85 : decode cX5_count 85 = .ok (.getfield 70, 3) := by decide +kernel
theorem dX5_count_88 : decode cX5_count 88 = .ok (.ireturn, 1) := by decide +kernel
theorem dX5_count_89 : decode cX5_count 89 = .ok (.aload_n 0, 1) := by decide +kernel
theorem dX5_count_90 : decode cX5_count 90 = .ok (.getfield 43, 3) := by decide +kernel
theorem dX5_count_93 : decode cX5_count 93 = .ok (.iconst 0, 1) := by decide +kernel
theorem dX5_count_94 : decode cX5_count 94 = .ok (.aaload, 1) := by decide +kernel
theorem dX5_count_95 : decode cX5_count 95 = .ok (.invokevirtual 298, 3) := by decide +kernel
theorem dX5_count_98 : decode cX5_count 98 = .ok (.ifCond .eq 8, 3) := by decide +kernel
theorem dX5_count_101 : decode cX5_count 101 = .ok (.bipush (-4), 2) := by decide +kernel
theorem dX5_count_103 : decode cX5_count 103 = .ok (.goto 12, 3) := by decide +kernel
theorem dX5_count_106 : decode cX5_count 106 = .ok (.aload_n 0, 1) := by decide +kernel
theorem dX5_count_107 : decode cX5_count 107 = .ok (.getfield 43, 3) := by decide +kernel
theorem dX5_count_110 : decode cX5_count 110 = .ok (.iconst 0, 1) := by decide +kernel
theorem dX5_count_111 : decode cX5_count 111 = .ok (.aaload, 1) := by decide +kernel
theorem dX5_count_112 : decode cX5_count 112 = .ok (.getfield 302, 3) := by decide +kernel
theorem dX5_count_115 : decode cX5_count 115 = .ok (.ireturn, 1) := by decide +kernel
theorem dX5_count_116 : decode cX5_count 116 = .ok (.aload_n 0, 1) := by decide +kernel
theorem dX5_count_117 : decode cX5_count 117 = .ok (.getfield 10, 3) := by decide +kernel
theorem dX5_count_120 : decode cX5_count 120 = .ok (.invokevirtual 303, 3) := by decide +kernel
theorem dX5_count_123 : decode cX5_count 123 = .ok (.ireturn, 1) := by decide +kernel
theorem dX5_count_124 : decode cX5_count 124 = .ok (.aload_n 0, 1) := by decide +kernel
theorem dX5_count_125 : decode cX5_count 125 = .ok (.getfield 10, 3) := by decide +kernel
theorem dX5_count_128 : decode cX5_count 128 = .ok (.invokevirtual 306, 3) := by decide +kernel
theorem dX5_count_131 : decode cX5_count 131 = .ok (.ireturn, 1) := by decide +kernel
theorem dX5_count_132 : decode cX5_count 132 = .ok (.iconst (-1), 1) := by decide +kernel
theorem dX5_count_133 : decode cX5_count 133 = .ok (.ireturn, 1) := by decide +kernel
theorem dX5_within_0 : decode cX5_within 0 = .ok (.iload_n 0, 1) := by decide +kernel
theorem dX5_within_1 : decode cX5_within 1 = .ok (.iload_n 1, 1) := by decide +kernel
theorem dX5_within_2 : decode cX5_within 2 = .ok (.if_icmp .lt 12, 3) := by decide +kernel
theorem dX5_within_5 : decode cX5_within 5 = .ok (.iload_n 0, 1) := by decide +kernel
theorem dX5_within_6 : decode cX5_within 6 = .ok (.iload_n 2, 1) := by decide +kernel
theorem dX5_within_7 : decode cX5_within 7 = .ok (.if_icmp .gt 7, 3) := by decide +kernel
theorem dX5_within_10 : decode cX5_within 10 = .ok (.iconst 1, 1) := by decide +kernel
theorem dX5_within_11 : decode cX5_within 11 = .ok (.goto 4, 3) := by decide +kernel
theorem dX5_within_14 : decode cX5_within 14 = .ok (.iconst 0, 1) := by decide +kernel
theorem dX5_within_15 : decode cX5_within 15 = .ok (.ireturn, 1) := by decide +kernel
set_option maxRecDepth 20000 in
theorem ggX5_isEither_X5_within : GoodIn wsX5_isEither wsX5_within := goodIn_r _ [4] (by decide +kernel) (by decide +kernel)
set_option maxRecDepth 20000 in
theorem gX5_isEither_X5_within : GoodIn wsX5_isEither (va_wsS RX5 62 yX5_within wsX5_within) := goodIn_app (goodIn_of _ (by decide +kernel)) ggX5_isEither_X5_within
theorem dX5_isEither_0 : decode cX5_isEither 0 = .ok (.iload_n 0, 1) := by decide +kernel
theorem dX5_isEither_1 : decode cX5_isEither 1 = .ok (.iconst 0, 1) := by decide +kernel
theorem dX5_isEither_2 : decode cX5_isEither 2 = .ok (.iconst 1, 1) := by decide +kernel
theorem dX5_isEither_3 : decode cX5_isEither 3 = .ok (.invokestatic 62, 3) := by decide +kernel
theorem dX5_isEither_6 : decode cX5_isEither 6 = .ok (.ireturn, 1) := by decide +kernel
set_option maxRecDepth 20000 in
theorem ggX5_isPlace_X5_within : GoodIn wsX5_isPlace wsX5_within := goodIn_r _ [4] (by decide +kernel) (by decide +kernel)
set_option maxRecDepth 20000 in
theorem gX5_isPlace_X5_within : GoodIn wsX5_isPlace (va_wsS RX5 62 yX5_within wsX5_within) := goodIn_app (goodIn_of _ (by decide +kernel)) ggX5_isPlace_X5_within
theorem dX5_isPlace_0 : decode cX5_isPlace 0 = .ok (.iload_n 0, 1) := by decide +kernel
theorem dX5_isPlace_1 : decode cX5_isPlace 1 = .ok (.iconst 0, 1) := by decide +kernel
theorem dX5_isPlace_2 : decode cX5_isPlace 2 = .ok (.bipush 20, 2) := by decide +kernel
theorem dX5_isPlace_4 : decode cX5_isPlace 4 = .ok (.invokestatic 62, 3) := by decide +kernel
theorem dX5_isPlace_7 : decode cX5_isPlace 7 = .ok (.ifCond .eq 17, 3) := by decide +kernel
theorem dX5_isPlace_10 : decode cX5_isPlace 10 = .ok (.iload_n 1, 1) := by decide +kernel
theorem dX5_isPlace_11 : decode cX5_isPlace 11 = .ok (.iconst 0, 1) := by decide +kernel
theorem dX5_isPlace_12 : decode cX5_isPlace 12 = .ok (.bipush 20, 2) := by decide +kernel
theorem dX5_isPlace_14 : decode cX5_isPlace 14 = .ok (.invokestatic 62, 3) := by decide +kernel
theorem dX5_isPlace_17 : decode cX5_isPlace 17 = .ok (.ifCond .eq 7, 3) := by decide +kernel
theorem dX5_isPlace_20 : decode cX5_isPlace 20 = .ok (.iconst 1, 1) := by decide +kernel
theorem dX5_isPlace_21 : decode cX5_isPlace 21 = .ok (.goto 4, 3) := by decide +kernel
theorem dX5_isPlace_24 : decode cX5_isPlace 24 = .ok (.iconst 0, 1) := by decide +kernel
theorem dX5_isPlace_25 : decode cX5_isPlace 25 = .ok (.ireturn, 1) := by decide +kernel
set_option maxRecDepth 20000 in
theorem ggX5_isKind_X5_within : GoodIn wsX5_isKind wsX5_within := goodIn_r _ [4] (by decide +kernel) (by decide +kernel)
set_option maxRecDepth 20000 in
theorem gX5_isKind_X5_within : GoodIn wsX5_isKind (va_wsS RX5 62 yX5_within wsX5_within) := goodIn_app (goodIn_of _ (by decide +kernel)) ggX5_isKind_X5_within
theorem dX5_isKind_0 : decode cX5_isKind 0 = .ok (.iload_n 0, 1) := by decide +kernel
theorem dX5_isKind_1 : decode cX5_isKind 1 = .ok (.iconst 0, 1) := by decide +kernel
theorem dX5_isKind_2 : decode cX5_isKind 2 = .ok (.iconst 3, 1) := by decide +kernel
theorem dX5_isKind_3 : decode cX5_isKind 3 = .ok (.invokestatic 62, 3) := by decide +kernel
theorem dX5_isKind_6 : decode cX5_isKind 6 = .ok (.ireturn, 1) := by decide +kernel
set_option maxRecDepth 20000 in
theorem ggX5_isStep_X5_within : GoodIn wsX5_isStep wsX5_within := goodIn_r _ [4] (by decide +kernel) (by decide +kernel)
set_option maxRecDepth 20000 in
theorem gX5_isStep_X5_within : GoodIn wsX5_isStep (va_wsS RX5 62 yX5_within wsX5_within) := goodIn_app (goodIn_of _ (by decide +kernel)) ggX5_isStep_X5_within
theorem dX5_isStep_0 : decode cX5_isStep 0 = .ok (.iload_n 0, 1) := by decide +kernel
theorem dX5_isStep_1 : decode cX5_isStep 1 = .ok (.iconst 1, 1) := by decide +kernel
theorem dX5_isStep_2 : decode cX5_isStep 2 = .ok (.bipush 9, 2) := by decide +kernel
theorem dX5_isStep_4 : decode cX5_isStep 4 = .ok (.invokestatic 62, 3) := by decide +kernel
theorem dX5_isStep_7 : decode cX5_isStep 7 = .ok (.ireturn, 1) := by decide +kernel
set_option maxRecDepth 20000 in
theorem ggX5_isTold_X5_within : GoodIn wsX5_isTold wsX5_within := goodIn_r _ [6] (by decide +kernel) (by decide +kernel)
set_option maxRecDepth 20000 in
theorem gX5_isTold_X5_within : GoodIn wsX5_isTold (va_wsS RX5 62 yX5_within wsX5_within) := goodIn_app (goodIn_of _ (by decide +kernel)) ggX5_isTold_X5_within
theorem dX5_isTold_0 : decode cX5_isTold 0 = .ok (.iload_n 0, 1) := by decide +kernel
theorem dX5_isTold_1 : decode cX5_isTold 1 = .ok (.ldc_w 309, 3) := by decide +kernel
theorem dX5_isTold_4 : decode cX5_isTold 4 = .ok (.ldc_w 310, 3) := by decide +kernel
theorem dX5_isTold_7 : decode cX5_isTold 7 = .ok (.invokestatic 62, 3) := by decide +kernel
theorem dX5_isTold_10 : decode cX5_isTold 10 = .ok (.ireturn, 1) := by decide +kernel
set_option maxRecDepth 20000 in
theorem ggX5_isSheet_X5_within : GoodIn wsX5_isSheet wsX5_within := goodIn_r _ [4] (by decide +kernel) (by decide +kernel)
set_option maxRecDepth 20000 in
theorem gX5_isSheet_X5_within : GoodIn wsX5_isSheet (va_wsS RX5 62 yX5_within wsX5_within) := goodIn_app (goodIn_of _ (by decide +kernel)) ggX5_isSheet_X5_within
theorem dX5_isSheet_0 : decode cX5_isSheet 0 = .ok (.iload_n 0, 1) := by decide +kernel
theorem dX5_isSheet_1 : decode cX5_isSheet 1 = .ok (.iconst 0, 1) := by decide +kernel
theorem dX5_isSheet_2 : decode cX5_isSheet 2 = .ok (.iconst 3, 1) := by decide +kernel
theorem dX5_isSheet_3 : decode cX5_isSheet 3 = .ok (.invokestatic 62, 3) := by decide +kernel
theorem dX5_isSheet_6 : decode cX5_isSheet 6 = .ok (.ireturn, 1) := by decide +kernel
set_option maxRecDepth 20000 in
theorem ggX5_isLane_X5_within : GoodIn wsX5_isLane wsX5_within := goodIn_r _ [4] (by decide +kernel) (by decide +kernel)
set_option maxRecDepth 20000 in
theorem gX5_isLane_X5_within : GoodIn wsX5_isLane (va_wsS RX5 62 yX5_within wsX5_within) := goodIn_app (goodIn_of _ (by decide +kernel)) ggX5_isLane_X5_within
theorem dX5_isLane_0 : decode cX5_isLane 0 = .ok (.iload_n 0, 1) := by decide +kernel
theorem dX5_isLane_1 : decode cX5_isLane 1 = .ok (.iconst 0, 1) := by decide +kernel
theorem dX5_isLane_2 : decode cX5_isLane 2 = .ok (.iconst 2, 1) := by decide +kernel
theorem dX5_isLane_3 : decode cX5_isLane 3 = .ok (.invokestatic 62, 3) := by decide +kernel
theorem dX5_isLane_6 : decode cX5_isLane 6 = .ok (.ireturn, 1) := by decide +kernel
set_option maxRecDepth 20000 in
theorem ggX5_hasCorner_X5_within : GoodIn wsX5_hasCorner wsX5_within := goodIn_r _ [6] (by decide +kernel) (by decide +kernel)
set_option maxRecDepth 20000 in
theorem gX5_hasCorner_X5_within : GoodIn wsX5_hasCorner (va_wsS RX5 62 yX5_within wsX5_within) := goodIn_app (goodIn_of _ (by decide +kernel)) ggX5_hasCorner_X5_within
theorem dX5_hasCorner_0 : decode cX5_hasCorner 0 = .ok (.iload_n 1, 1) := by decide +kernel
theorem dX5_hasCorner_1 : decode cX5_hasCorner 1 = .ok (.iconst 0, 1) := by decide +kernel
theorem dX5_hasCorner_2 : decode cX5_hasCorner 2 = .ok (.aload_n 0, 1) := by decide +kernel
theorem dX5_hasCorner_3 : decode cX5_hasCorner 3 = .ok (.getfield 10, 3) := by decide +kernel
theorem dX5_hasCorner_6 : decode cX5_hasCorner 6 = .ok (.getfield 99, 3) := by decide +kernel
theorem dX5_hasCorner_9 : decode cX5_hasCorner 9 = .ok (.iconst 1, 1) := by decide +kernel
theorem dX5_hasCorner_10 : decode cX5_hasCorner 10 = .ok (.isub, 1) := by decide +kernel
theorem dX5_hasCorner_11 : decode cX5_hasCorner 11 = .ok (.invokestatic 62, 3) := by decide +kernel
theorem dX5_hasCorner_14 : decode cX5_hasCorner 14 = .ok (.ireturn, 1) := by decide +kernel
set_option maxRecDepth 20000 in
theorem ggX5_hasWheel_X5_within : GoodIn wsX5_hasWheel wsX5_within := goodIn_r _ [6] (by decide +kernel) (by decide +kernel)
set_option maxRecDepth 20000 in
theorem gX5_hasWheel_X5_within : GoodIn wsX5_hasWheel (va_wsS RX5 62 yX5_within wsX5_within) := goodIn_app (goodIn_of _ (by decide +kernel)) ggX5_hasWheel_X5_within
theorem dX5_hasWheel_0 : decode cX5_hasWheel 0 = .ok (.iload_n 1, 1) := by decide +kernel
theorem dX5_hasWheel_1 : decode cX5_hasWheel 1 = .ok (.iconst 0, 1) := by decide +kernel
theorem dX5_hasWheel_2 : decode cX5_hasWheel 2 = .ok (.aload_n 0, 1) := by decide +kernel
theorem dX5_hasWheel_3 : decode cX5_hasWheel 3 = .ok (.getfield 10, 3) := by decide +kernel
theorem dX5_hasWheel_6 : decode cX5_hasWheel 6 = .ok (.getfield 102, 3) := by decide +kernel
theorem dX5_hasWheel_9 : decode cX5_hasWheel 9 = .ok (.iconst 1, 1) := by decide +kernel
theorem dX5_hasWheel_10 : decode cX5_hasWheel 10 = .ok (.isub, 1) := by decide +kernel
theorem dX5_hasWheel_11 : decode cX5_hasWheel 11 = .ok (.invokestatic 62, 3) := by decide +kernel
theorem dX5_hasWheel_14 : decode cX5_hasWheel 14 = .ok (.ireturn, 1) := by decide +kernel
set_option maxRecDepth 20000 in
theorem ggX5_isMissing_X5_within : GoodIn wsX5_isMissing wsX5_within := goodIn_r _ [4] (by decide +kernel) (by decide +kernel)
set_option maxRecDepth 20000 in
theorem gX5_isMissing_X5_within : GoodIn wsX5_isMissing (va_wsS RX5 62 yX5_within wsX5_within) := goodIn_app (goodIn_of _ (by decide +kernel)) ggX5_isMissing_X5_within
set_option maxRecDepth 20000 in
theorem ggX5_isMissing_X5_hasWheel : GoodIn wsX5_isMissing wsX5_hasWheel := goodIn_r _ [8, 9, 10, 1, 2, 3, 4, 11, 12, 13, 14, 15, 16, 17, 18, 19, 20, 21, 22, 23, 24, 25, 26, 27, 28, 29, 30, 31] (by decide +kernel) (by decide +kernel)
set_option maxRecDepth 20000 in
theorem gX5_isMissing_X5_hasWheel : GoodIn wsX5_isMissing (wsV RX5 136 RX5 yX5_hasWheel wsX5_hasWheel) := goodIn_app (goodIn_of _ (by decide +kernel)) ggX5_isMissing_X5_hasWheel
theorem dX5_isMissing_0 : decode cX5_isMissing 0 = .ok (.iload_n 1, 1) := by decide +kernel
theorem dX5_isMissing_1 : decode cX5_isMissing 1 = .ok (.iconst 0, 1) := by decide +kernel
theorem dX5_isMissing_2 : decode cX5_isMissing 2 = .ok (.bipush 10, 2) := by decide +kernel
theorem dX5_isMissing_4 : decode cX5_isMissing 4 = .ok (.invokestatic 62, 3) := by decide +kernel
theorem dX5_isMissing_7 : decode cX5_isMissing 7 = .ok (.ifCond .eq 25, 3) := by decide +kernel
theorem dX5_isMissing_10 : decode cX5_isMissing 10 = .ok (.aload_n 0, 1) := by decide +kernel
theorem dX5_isMissing_11 : decode cX5_isMissing 11 = .ok (.iload_n 2, 1) := by decide +kernel
theorem dX5_isMissing_12 : decode cX5_isMissing 12 = .ok (.invokevirtual 136, 3) := by decide +kernel
theorem dX5_isMissing_15 : decode cX5_isMissing 15 = .ok (.ifCond .eq 17, 3) := by decide +kernel
theorem dX5_isMissing_18 : decode cX5_isMissing 18 = .ok (.iload_n 3, 1) := by decide +kernel
theorem dX5_isMissing_19 : decode cX5_isMissing 19 = .ok (.iconst 0, 1) := by decide +kernel
theorem dX5_isMissing_20 : decode cX5_isMissing 20 = .ok (.bipush 8, 2) := by decide +kernel
theorem dX5_isMissing_22 : decode cX5_isMissing 22 = .ok (.invokestatic 62, 3) := by decide +kernel
theorem dX5_isMissing_25 : decode cX5_isMissing 25 = .ok (.ifCond .eq 7, 3) := by decide +kernel
theorem dX5_isMissing_28 : decode cX5_isMissing 28 = .ok (.iconst 1, 1) := by decide +kernel
theorem dX5_isMissing_29 : decode cX5_isMissing 29 = .ok (.goto 4, 3) := by decide +kernel
theorem dX5_isMissing_32 : decode cX5_isMissing 32 = .ok (.iconst 0, 1) := by decide +kernel
theorem dX5_isMissing_33 : decode cX5_isMissing 33 = .ok (.ireturn, 1) := by decide +kernel
theorem dX5_pair_0 : decode cX5_pair 0 = .ok (.bipush 100, 2) := by decide +kernel
theorem dX5_pair_2 : decode cX5_pair 2 = .ok (.iload_n 0, 1) := by decide +kernel
theorem dX5_pair_3 : decode cX5_pair 3 = .ok (.imul, 1) := by decide +kernel
theorem dX5_pair_4 : decode cX5_pair 4 = .ok (.iload_n 1, 1) := by decide +kernel
theorem dX5_pair_5 : decode cX5_pair 5 = .ok (.iadd, 1) := by decide +kernel
theorem dX5_pair_6 : decode cX5_pair 6 = .ok (.ireturn, 1) := by decide +kernel
set_option maxRecDepth 20000 in
theorem ggX5_refusalOfCorner_X5_isPlace : GoodIn wsX5_refusalOfCorner wsX5_isPlace := goodIn_r _ [5, 6, 7, 4, 8] (by decide +kernel) (by decide +kernel)
set_option maxRecDepth 20000 in
theorem gX5_refusalOfCorner_X5_isPlace : GoodIn wsX5_refusalOfCorner (va_wsS RX5 165 yX5_isPlace wsX5_isPlace) := goodIn_app (goodIn_of _ (by decide +kernel)) ggX5_refusalOfCorner_X5_isPlace
theorem dX5_refusalOfCorner_0 : decode cX5_refusalOfCorner 0 = .ok (.iload_n 1, 1) := by decide +kernel
theorem dX5_refusalOfCorner_1 : decode cX5_refusalOfCorner 1 = .ok (.iload_n 2, 1) := by decide +kernel
theorem dX5_refusalOfCorner_2 : decode cX5_refusalOfCorner 2 = .ok (.invokestatic 165, 3) := by decide +kernel
theorem dX5_refusalOfCorner_5 : decode cX5_refusalOfCorner 5 = .ok (.ifCond .ne 5, 3) := by decide +kernel
theorem dX5_refusalOfCorner_8 : decode cX5_refusalOfCorner 8 = .ok (.iconst (-1), 1) := by decide +kernel
theorem dX5_refusalOfCorner_9 : decode cX5_refusalOfCorner 9 = .ok (.ireturn, 1) := by decide +kernel
theorem dX5_refusalOfCorner_10 : decode cX5_refusalOfCorner 10 = .ok (.aload_n 0, 1) := by decide +kernel
theorem dX5_refusalOfCorner_11 : decode cX5_refusalOfCorner 11 = .ok (.getfield 99, 3) := by decide +kernel
theorem dX5_refusalOfCorner_14 : decode cX5_refusalOfCorner 14 = .ok (.bipush 10, 2) := by decide +kernel
theorem dX5_refusalOfCorner_16 : decode cX5_refusalOfCorner 16 = .ok (.if_icmp .lt 8, 3) := by decide +kernel
theorem dX5_refusalOfCorner_19 : decode cX5_refusalOfCorner 19 = .ok (.bipush (-3), 2) := by decide +kernel
theorem dX5_refusalOfCorner_21 : decode cX5_refusalOfCorner 21 = .ok (.goto 4, 3) := by decide +kernel
theorem dX5_refusalOfCorner_24 : decode cX5_refusalOfCorner 24 = .ok (.iconst 0, 1) := by decide +kernel
theorem dX5_refusalOfCorner_25 : decode cX5_refusalOfCorner 25 = .ok (.ireturn, 1) := by decide +kernel
set_option maxRecDepth 20000 in
theorem ggX5_rolledAhead_X0_sweepAhead : GoodIn wsX5_rolledAhead wsX0_sweepAhead := goodIn_r _ [6, 7, 8, 9, 5, 10, 11, 12, 13, 14, 15, 16, 17, 18, 19, 20, 50, 51, 52, 53, 54, 55, 56, 57, 58, 59] (by decide +kernel) (by decide +kernel)
set_option maxRecDepth 20000 in
theorem gX5_rolledAhead_X0_sweepAhead : GoodIn wsX5_rolledAhead (wsV RX5 187 RX0 yX0_sweepAhead wsX0_sweepAhead) := goodIn_app (goodIn_of _ (by decide +kernel)) ggX5_rolledAhead_X0_sweepAhead
set_option maxRecDepth 20000 in
theorem ggX5_rolledAhead_X0_rolledByAll : GoodIn wsX5_rolledAhead wsX0_rolledByAll := goodIn_r _ [24, 25, 26, 27, 28, 29, 30, 31, 32, 5, 33, 34, 35, 36, 37, 38, 50, 51, 52, 53, 54, 55, 56, 57, 58, 59] (by decide +kernel) (by decide +kernel)
set_option maxRecDepth 20000 in
theorem gX5_rolledAhead_X0_rolledByAll : GoodIn wsX5_rolledAhead (wsV RX5 311 RX0 yX0_rolledByAll wsX0_rolledByAll) := goodIn_app (goodIn_of _ (by decide +kernel)) ggX5_rolledAhead_X0_rolledByAll
theorem dX5_rolledAhead_0 : decode cX5_rolledAhead 0 = .ok (.iconst 0, 1) := by decide +kernel
theorem dX5_rolledAhead_1 : decode cX5_rolledAhead 1 = .ok (.istore_n 2, 1) := by decide +kernel
theorem dX5_rolledAhead_2 : decode cX5_rolledAhead 2 = .ok (.iconst 0, 1) := by decide +kernel
theorem dX5_rolledAhead_3 : decode cX5_rolledAhead 3 = .ok (.istore_n 3, 1) := by decide +kernel
theorem dX5_rolledAhead_4 : decode cX5_rolledAhead 4 = .ok (.iload_n 3, 1) := by decide +kernel
theorem dX5_rolledAhead_5 : decode cX5_rolledAhead 5 = .ok (.iload_n 1, 1) := by decide +kernel
theorem dX5_rolledAhead_6 : decode cX5_rolledAhead 6 = .ok (.if_icmp .ge 27, 3) := by decide +kernel
theorem dX5_rolledAhead_9 : decode cX5_rolledAhead 9 = .ok (.iload_n 2, 1) := by decide +kernel
theorem dX5_rolledAhead_10 : decode cX5_rolledAhead 10 = .ok (.aload_n 0, 1) := by decide +kernel
theorem dX5_rolledAhead_11 : decode cX5_rolledAhead 11 = .ok (.getfield 10, 3) := by decide +kernel
theorem dX5_rolledAhead_14 : decode cX5_rolledAhead 14 = .ok (.aload_n 0, 1) := by decide +kernel
theorem dX5_rolledAhead_15 : decode cX5_rolledAhead 15 = .ok (.getfield 10, 3) := by decide +kernel
theorem dX5_rolledAhead_18 : decode cX5_rolledAhead 18 = .ok (.iload_n 3, 1) := by decide +kernel
theorem dX5_rolledAhead_19 : decode cX5_rolledAhead 19 = .ok (.invokevirtual 187, 3) := by decide +kernel
theorem dX5_rolledAhead_22 : decode cX5_rolledAhead 22 = .ok (.invokevirtual 311, 3) := by decide +kernel
theorem dX5_rolledAhead_25 : decode cX5_rolledAhead 25 = .ok (.iadd, 1) := by decide +kernel
theorem dX5_rolledAhead_26 : decode cX5_rolledAhead 26 = .ok (.istore_n 2, 1) := by decide +kernel
theorem dX5_rolledAhead_27 : decode cX5_rolledAhead 27 = .ok (.iinc 3 1, 3) := by decide +kernel
theorem dX5_rolledAhead_30 : decode cX5_rolledAhead 30 = .ok (.goto (-26), 3) := by decide +kernel
theorem dX5_rolledAhead_33 : decode cX5_rolledAhead 33 = .ok (.iload_n 2, 1) := by decide +kernel
theorem dX5_rolledAhead_34 : decode cX5_rolledAhead 34 = .ok (.ireturn, 1) := by decide +kernel
set_option maxRecDepth 20000 in
theorem ggX5_idleAhead_X0_sweepAhead : GoodIn wsX5_idleAhead wsX0_sweepAhead := goodIn_r _ [7, 8, 9, 10, 6, 11, 12, 13, 14, 15, 16, 17, 18, 19, 20, 21, 51, 52, 53, 54, 55, 56, 57, 58, 59, 60] (by decide +kernel) (by decide +kernel)
set_option maxRecDepth 20000 in
theorem gX5_idleAhead_X0_sweepAhead : GoodIn wsX5_idleAhead (wsV RX5 187 RX0 yX0_sweepAhead wsX0_sweepAhead) := goodIn_app (goodIn_of _ (by decide +kernel)) ggX5_idleAhead_X0_sweepAhead
set_option maxRecDepth 20000 in
theorem ggX5_idleAhead_X0_someWheelRests : GoodIn wsX5_idleAhead wsX0_someWheelRests := goodIn_r _ [25, 26, 27, 28, 29, 6, 30, 31, 32, 33, 34, 35, 36, 37, 38, 39, 51, 52, 53, 54, 55, 56, 57, 58, 59, 60] (by decide +kernel) (by decide +kernel)
set_option maxRecDepth 20000 in
theorem gX5_idleAhead_X0_someWheelRests : GoodIn wsX5_idleAhead (wsV RX5 314 RX0 yX0_someWheelRests wsX0_someWheelRests) := goodIn_app (goodIn_of _ (by decide +kernel)) ggX5_idleAhead_X0_someWheelRests
theorem dX5_idleAhead_0 : decode cX5_idleAhead 0 = .ok (.aload_n 0, 1) := by decide +kernel
theorem dX5_idleAhead_1 : decode cX5_idleAhead 1 = .ok (.getfield 10, 3) := by decide +kernel
theorem dX5_idleAhead_4 : decode cX5_idleAhead 4 = .ok (.getfield 99, 3) := by decide +kernel
theorem dX5_idleAhead_7 : decode cX5_idleAhead 7 = .ok (.ifCond .ne 5, 3) := by decide +kernel
theorem dX5_idleAhead_10 : decode cX5_idleAhead 10 = .ok (.iconst 0, 1) := by decide +kernel
theorem dX5_idleAhead_11 : decode cX5_idleAhead 11 = .ok (.ireturn, 1) := by decide +kernel
theorem dX5_idleAhead_12 : decode cX5_idleAhead 12 = .ok (.iconst 0, 1) := by decide +kernel
theorem dX5_idleAhead_13 : decode cX5_idleAhead 13 = .ok (.istore_n 2, 1) := by decide +kernel
theorem dX5_idleAhead_14 : decode cX5_idleAhead 14 = .ok (.iconst 0, 1) := by decide +kernel
theorem dX5_idleAhead_15 : decode cX5_idleAhead 15 = .ok (.istore_n 3, 1) := by decide +kernel
theorem dX5_idleAhead_16 : decode cX5_idleAhead 16 = .ok (.iload_n 3, 1) := by decide +kernel
theorem dX5_idleAhead_17 : decode cX5_idleAhead 17 = .ok (.iload_n 1, 1) := by decide +kernel
theorem dX5_idleAhead_18 : decode cX5_idleAhead 18 = .ok (.if_icmp .ge 30, 3) := by decide +kernel
theorem dX5_idleAhead_21 : decode cX5_idleAhead 21 = .ok (.aload_n 0, 1) := by decide +kernel
theorem dX5_idleAhead_22 : decode cX5_idleAhead 22 = .ok (.getfield 10, 3) := by decide +kernel
theorem dX5_idleAhead_25 : decode cX5_idleAhead 25 = .ok (.aload_n 0, 1) := by decide +kernel
theorem dX5_idleAhead_26 : decode cX5_idleAhead 26 = .ok (.getfield 10, 3) := by decide +kernel
theorem dX5_idleAhead_29 : decode cX5_idleAhead 29 = .ok (.iload_n 3, 1) := by decide +kernel
theorem dX5_idleAhead_30 : decode cX5_idleAhead 30 = .ok (.invokevirtual 187, 3) := by decide +kernel
theorem dX5_idleAhead_33 : decode cX5_idleAhead 33 = .ok (.invokevirtual 314, 3) := by decide +kernel
theorem dX5_idleAhead_36 : decode cX5_idleAhead 36 = .ok (.ifCond .eq 6, 3) := by decide +kernel
theorem dX5_idleAhead_39 : decode cX5_idleAhead 39 = .ok (.iinc 2 1, 3) := by decide +kernel
theorem dX5_idleAhead_42 : decode cX5_idleAhead 42 = .ok (.iinc 3 1, 3) := by decide +kernel
theorem dX5_idleAhead_45 : decode cX5_idleAhead 45 = .ok (.goto (-29), 3) := by decide +kernel
theorem dX5_idleAhead_48 : decode cX5_idleAhead 48 = .ok (.iload_n 2, 1) := by decide +kernel
theorem dX5_idleAhead_49 : decode cX5_idleAhead 49 = .ok (.ireturn, 1) := by decide +kernel
set_option maxRecDepth 20000 in
theorem ggX5_greatestSweepAhead_X0_sweepAhead : GoodIn wsX5_greatestSweepAhead wsX0_sweepAhead := goodIn_r _ [11, 12, 13, 14, 10, 15, 16, 17, 18, 19, 20, 21, 22, 23, 24, 25, 37, 38, 39, 40, 41, 42, 43, 44, 45, 46] (by decide +kernel) (by decide +kernel)
set_option maxRecDepth 20000 in
theorem gX5_greatestSweepAhead_X0_sweepAhead : GoodIn wsX5_greatestSweepAhead (wsV RX5 187 RX0 yX0_sweepAhead wsX0_sweepAhead) := goodIn_app (goodIn_of _ (by decide +kernel)) ggX5_greatestSweepAhead_X0_sweepAhead
theorem dX5_greatestSweepAhead_0 : decode cX5_greatestSweepAhead 0 = .ok (.iload_n 1, 1) := by decide +kernel
theorem dX5_greatestSweepAhead_1 : decode cX5_greatestSweepAhead 1 = .ok (.ifCond .eq 13, 3) := by decide +kernel
theorem dX5_greatestSweepAhead_4 : decode cX5_greatestSweepAhead 4 = .ok (.aload_n 0, 1) := by decide +kernel
theorem dX5_greatestSweepAhead_5 : decode cX5_greatestSweepAhead 5 = .ok (.getfield 10, 3) := by decide +kernel
theorem dX5_greatestSweepAhead_8 : decode cX5_greatestSweepAhead 8 = .ok (.getfield 99, 3) := by decide +kernel
theorem dX5_greatestSweepAhead_11 : decode cX5_greatestSweepAhead 11 = .ok (.ifCond .ne 6, 3) := by decide +kernel
theorem dX5_greatestSweepAhead_14 : decode cX5_greatestSweepAhead 14 = .ok (.bipush (-4), 2) := by decide +kernel
theorem dX5_greatestSweepAhead_16 : decode cX5_greatestSweepAhead 16 = .ok (.ireturn, 1) := by decide +kernel
theorem dX5_greatestSweepAhead_17 : decode cX5_greatestSweepAhead 17 = .ok (.aload_n 0, 1) := by decide +kernel
theorem dX5_greatestSweepAhead_18 : decode cX5_greatestSweepAhead 18 = .ok (.getfield 10, 3) := by decide +kernel
theorem dX5_greatestSweepAhead_21 : decode cX5_greatestSweepAhead 21 = .ok (.iconst 0, 1) := by decide +kernel
theorem dX5_greatestSweepAhead_22 : decode cX5_greatestSweepAhead 22 = .ok (.invokevirtual 187, 3) := by decide +kernel
theorem dX5_greatestSweepAhead_25 : decode cX5_greatestSweepAhead 25 = .ok (.istore_n 2, 1) := by decide +kernel
theorem dX5_greatestSweepAhead_26 : decode cX5_greatestSweepAhead 26 = .ok (.iconst 1, 1) := by decide +kernel
theorem dX5_greatestSweepAhead_27 : decode cX5_greatestSweepAhead 27 = .ok (.istore_n 3, 1) := by decide +kernel
theorem dX5_greatestSweepAhead_28 : decode cX5_greatestSweepAhead 28 = .ok (.iload_n 3, 1) := by decide +kernel
theorem dX5_greatestSweepAhead_29 : decode cX5_greatestSweepAhead 29 = .ok (.iload_n 1, 1) := by decide +kernel
theorem dX5_greatestSweepAhead_30 : decode cX5_greatestSweepAhead 30 = .ok (.if_icmp .ge 22, 3) := by decide +kernel
theorem dX5_greatestSweepAhead_33 : decode cX5_greatestSweepAhead 33 = .ok (.iload_n 2, 1) := by decide +kernel
theorem dX5_greatestSweepAhead_34 : decode cX5_greatestSweepAhead 34 = .ok (.aload_n 0, 1) := by decide +kernel
theorem dX5_greatestSweepAhead_35 : decode cX5_greatestSweepAhead 35 = .ok (.getfield 10, 3) := by decide +kernel
theorem dX5_greatestSweepAhead_38 : decode cX5_greatestSweepAhead 38 = .ok (.iload_n 3, 1) := by decide +kernel
theorem dX5_greatestSweepAhead_39 : decode cX5_greatestSweepAhead 39 = .ok (.invokevirtual 187, 3) := by decide +kernel
theorem dX5_greatestSweepAhead_42 : decode cX5_greatestSweepAhead 42 = .ok (.invokestatic 317, 3) := by decide +kernel
theorem dX5_greatestSweepAhead_45 : decode cX5_greatestSweepAhead 45 = .ok (.istore_n 2, 1) := by decide +kernel
theorem dX5_greatestSweepAhead_46 : decode cX5_greatestSweepAhead 46 = .ok (.iinc 3 1, 3) := by decide +kernel
theorem dX5_greatestSweepAhead_49 : decode cX5_greatestSweepAhead 49 = .ok (.goto (-21), 3) := by decide +kernel
theorem dX5_greatestSweepAhead_52 : decode cX5_greatestSweepAhead 52 = .ok (.sipush 10000, 3) := by decide +kernel
theorem dX5_greatestSweepAhead_55 : decode cX5_greatestSweepAhead 55 = .ok (.iload_n 2, 1) := by decide +kernel
theorem dX5_greatestSweepAhead_56 : decode cX5_greatestSweepAhead 56 = .ok (.iadd, 1) := by decide +kernel
theorem dX5_greatestSweepAhead_57 : decode cX5_greatestSweepAhead 57 = .ok (.ireturn, 1) := by decide +kernel
set_option maxRecDepth 20000 in
theorem ggX5_setEdgeRolls_X0_sweepAhead : GoodIn wsX5_setEdgeRolls wsX0_sweepAhead := goodIn_r _ [7, 8, 9, 10, 6, 11, 12, 13, 14, 15, 16, 17, 18, 19, 20, 21, 46, 47, 48, 49, 50, 51, 52, 53, 54, 55] (by decide +kernel) (by decide +kernel)
set_option maxRecDepth 20000 in
theorem gX5_setEdgeRolls_X0_sweepAhead : GoodIn wsX5_setEdgeRolls (wsV RX5 187 RX0 yX0_sweepAhead wsX0_sweepAhead) := goodIn_app (goodIn_of _ (by decide +kernel)) ggX5_setEdgeRolls_X0_sweepAhead
set_option maxRecDepth 20000 in
theorem ggX5_setEdgeRolls_X0_rollOf : GoodIn wsX5_setEdgeRolls wsX0_rollOf := goodIn_r _ [25, 26, 27, 28, 29, 6, 30, 31, 32, 33, 34, 46, 47, 48, 49, 50, 51, 52, 53, 54, 55] (by decide +kernel) (by decide +kernel)
set_option maxRecDepth 20000 in
theorem gX5_setEdgeRolls_X0_rollOf : GoodIn wsX5_setEdgeRolls (wsV RX5 208 RX0 yX0_rollOf wsX0_rollOf) := goodIn_app (goodIn_of _ (by decide +kernel)) ggX5_setEdgeRolls_X0_rollOf
theorem dX5_setEdgeRolls_0 : decode cX5_setEdgeRolls 0 = .ok (.iconst 0, 1) := by decide +kernel
theorem dX5_setEdgeRolls_1 : decode cX5_setEdgeRolls 1 = .ok (.istore_n 3, 1) := by decide +kernel
theorem dX5_setEdgeRolls_2 : decode cX5_setEdgeRolls 2 = .ok (.iload_n 3, 1) := by decide +kernel
theorem dX5_setEdgeRolls_3 : decode cX5_setEdgeRolls 3 = .ok (.iload_n 2, 1) := by decide +kernel
theorem dX5_setEdgeRolls_4 : decode cX5_setEdgeRolls 4 = .ok (.if_icmp .ge 31, 3) := by decide +kernel
theorem dX5_setEdgeRolls_7 : decode cX5_setEdgeRolls 7 = .ok (.aload_n 0, 1) := by decide +kernel
theorem dX5_setEdgeRolls_8 : decode cX5_setEdgeRolls 8 = .ok (.getfield 47, 3) := by decide +kernel
theorem dX5_setEdgeRolls_11 : decode cX5_setEdgeRolls 11 = .ok (.iload_n 3, 1) := by decide +kernel
theorem dX5_setEdgeRolls_12 : decode cX5_setEdgeRolls 12 = .ok (.aload_n 0, 1) := by decide +kernel
theorem dX5_setEdgeRolls_13 : decode cX5_setEdgeRolls 13 = .ok (.getfield 10, 3) := by decide +kernel
theorem dX5_setEdgeRolls_16 : decode cX5_setEdgeRolls 16 = .ok (.iload_n 1, 1) := by decide +kernel
theorem dX5_setEdgeRolls_17 : decode cX5_setEdgeRolls 17 = .ok (.aload_n 0, 1) := by decide +kernel
theorem dX5_setEdgeRolls_18 : decode cX5_setEdgeRolls 18 = .ok (.getfield 10, 3) := by decide +kernel
theorem dX5_setEdgeRolls_21 : decode cX5_setEdgeRolls 21 = .ok (.iload_n 3, 1) := by decide +kernel
theorem dX5_setEdgeRolls_22 : decode cX5_setEdgeRolls 22 = .ok (.invokevirtual 187, 3) := by decide +kernel
theorem dX5_setEdgeRolls_25 : decode cX5_setEdgeRolls 25 = .ok (.invokevirtual 208, 3) := by decide +kernel
theorem dX5_setEdgeRolls_28 : decode cX5_setEdgeRolls 28 = .ok (.iastore, 1) := by decide +kernel
theorem dX5_setEdgeRolls_29 : decode cX5_setEdgeRolls 29 = .ok (.iinc 3 1, 3) := by decide +kernel
theorem dX5_setEdgeRolls_32 : decode cX5_setEdgeRolls 32 = .ok (.goto (-30), 3) := by decide +kernel
theorem dX5_setEdgeRolls_35 : decode cX5_setEdgeRolls 35 = .ok (.return_, 1) := by decide +kernel
theorem dX5_readsByTraced_0 : decode cX5_readsByTraced 0 = .ok (.aload_n 0, 1) := by decide +kernel
theorem dX5_readsByTraced_1 : decode cX5_readsByTraced 1 = .ok (.getfield 10, 3) := by decide +kernel
theorem dX5_readsByTraced_4 : decode cX5_readsByTraced 4 = .ok (.getfield 146, 3) := by decide +kernel
theorem dX5_readsByTraced_7 : decode cX5_readsByTraced 7 = .ok (.iload_n 1, 1) := by decide +kernel
theorem dX5_readsByTraced_8 : decode cX5_readsByTraced 8 = .ok (.iaload, 1) := by decide +kernel
theorem dX5_readsByTraced_9 : decode cX5_readsByTraced 9 = .ok (.istore 4, 2) := by decide +kernel
theorem dX5_readsByTraced_11 : decode cX5_readsByTraced 11 = .ok (.iconst 0, 1) := by decide +kernel
theorem dX5_readsByTraced_12 : decode cX5_readsByTraced 12 = .ok (.istore 5, 2) := by decide +kernel
theorem dX5_readsByTraced_14 : decode cX5_readsByTraced 14 = .ok (.iload 5, 2) := by decide +kernel
theorem dX5_readsByTraced_16 : decode cX5_readsByTraced 16 = .ok (.iload_n 2, 1) := by decide +kernel
theorem dX5_readsByTraced_17 : decode cX5_readsByTraced 17 = .ok (.if_icmp .ge 30, 3) := by decide +kernel
theorem dX5_readsByTraced_20 : decode cX5_readsByTraced 20 = .ok (.iload_n 3, 1) := by decide +kernel
theorem dX5_readsByTraced_21 : decode cX5_readsByTraced 21 = .ok (.iload 5, 2) := by decide +kernel
theorem dX5_readsByTraced_23 : decode cX5_readsByTraced 23 = .ok (.ishr, 1) := by decide +kernel
theorem dX5_readsByTraced_24 : decode cX5_readsByTraced 24 = .ok (.iconst 1, 1) := by decide +kernel
theorem dX5_readsByTraced_25 : decode cX5_readsByTraced 25 = .ok (.iand, 1) := by decide +kernel
theorem dX5_readsByTraced_26 : decode cX5_readsByTraced 26 = .ok (.ifCond .eq 15, 3) := by decide +kernel
theorem dX5_readsByTraced_29 : decode cX5_readsByTraced 29 = .ok (.iload 4, 2) := by decide +kernel
theorem dX5_readsByTraced_31 : decode cX5_readsByTraced 31 = .ok (.aload_n 0, 1) := by decide +kernel
theorem dX5_readsByTraced_32 : decode cX5_readsByTraced 32 = .ok (.getfield 47, 3) := by decide +kernel
theorem dX5_readsByTraced_35 : decode cX5_readsByTraced 35 = .ok (.iload 5, 2) := by decide +kernel
theorem dX5_readsByTraced_37 : decode cX5_readsByTraced 37 = .ok (.iaload, 1) := by decide +kernel
theorem dX5_readsByTraced_38 : decode cX5_readsByTraced 38 = .ok (.iadd, 1) := by decide +kernel
theorem dX5_readsByTraced_39 : decode cX5_readsByTraced 39 = .ok (.istore 4, 2) := by decide +kernel
theorem dX5_readsByTraced_41 : decode cX5_readsByTraced 41 = .ok (.iinc 5 1, 3) := by decide +kernel
theorem dX5_readsByTraced_44 : decode cX5_readsByTraced 44 = .ok (.goto (-30), 3) := by decide +kernel
theorem dX5_readsByTraced_47 : decode cX5_readsByTraced 47 = .ok (.iload 4, 2) := by decide +kernel
theorem dX5_readsByTraced_49 : decode cX5_readsByTraced 49 = .ok (.ireturn, 1) := by decide +kernel
theorem dX5_chancesOf_0 : decode cX5_chancesOf 0 = .ok (.lconst 1, 1) := by decide +kernel
theorem dX5_chancesOf_1 : decode cX5_chancesOf 1 = .ok (.lstore_n 3, 1) := by decide +kernel
theorem dX5_chancesOf_2 : decode cX5_chancesOf 2 = .ok (.iconst 0, 1) := by decide +kernel
theorem dX5_chancesOf_3 : decode cX5_chancesOf 3 = .ok (.istore 5, 2) := by decide +kernel
theorem dX5_chancesOf_5 : decode cX5_chancesOf 5 = .ok (.iload 5, 2) := by decide +kernel
theorem dX5_chancesOf_7 : decode cX5_chancesOf 7 = .ok (.iload_n 1, 1) := by decide +kernel
theorem dX5_chancesOf_8 : decode cX5_chancesOf 8 = .ok (.if_icmp .ge 31, 3) := by decide +kernel
theorem dX5_chancesOf_11 : decode cX5_chancesOf 11 = .ok (.lload_n 3, 1) := by decide +kernel
theorem dX5_chancesOf_12 : decode cX5_chancesOf 12 = .ok (.iload_n 2, 1) := by decide +kernel
theorem dX5_chancesOf_13 : decode cX5_chancesOf 13 = .ok (.iload 5, 2) := by decide +kernel
theorem dX5_chancesOf_15 : decode cX5_chancesOf 15 = .ok (.ishr, 1) := by decide +kernel
theorem dX5_chancesOf_16 : decode cX5_chancesOf 16 = .ok (.iconst 1, 1) := by decide +kernel
theorem dX5_chancesOf_17 : decode cX5_chancesOf 17 = .ok (.iand, 1) := by decide +kernel
theorem dX5_chancesOf_18 : decode cX5_chancesOf 18 = .ok (.ifCond .eq 11, 3) := by decide +kernel
theorem dX5_chancesOf_21 : decode cX5_chancesOf 21 = .ok (.bipush 10, 2) := by decide +kernel
theorem dX5_chancesOf_23 : decode cX5_chancesOf 23 = .ok (.iload_n 0, 1) := by decide +kernel
theorem dX5_chancesOf_24 : decode cX5_chancesOf 24 = .ok (.isub, 1) := by decide +kernel
theorem dX5_chancesOf_25 : decode cX5_chancesOf 25 = .ok (.i2l, 1) := by decide +kernel
theorem dX5_chancesOf_26 : decode cX5_chancesOf 26 = .ok (.goto 5, 3) := by decide +kernel
theorem dX5_chancesOf_29 : decode cX5_chancesOf 29 = .ok (.iload_n 0, 1) := by decide +kernel
theorem dX5_chancesOf_30 : decode cX5_chancesOf 30 = .ok (.i2l, 1) := by decide +kernel
theorem dX5_chancesOf_31 : decode cX5_chancesOf 31 = .ok (.lmul, 1) := by decide +kernel
theorem dX5_chancesOf_32 : decode cX5_chancesOf 32 = .ok (.lstore_n 3, 1) := by decide +kernel
theorem dX5_chancesOf_33 : decode cX5_chancesOf 33 = .ok (.iinc 5 1, 3) := by decide +kernel
theorem dX5_chancesOf_36 : decode cX5_chancesOf 36 = .ok (.goto (-31), 3) := by decide +kernel
theorem dX5_chancesOf_39 : decode cX5_chancesOf 39 = .ok (.lload_n 3, 1) := by decide +kernel
theorem dX5_chancesOf_40 : decode cX5_chancesOf 40 = .ok (.lreturn, 1) := by decide +kernel
theorem dX5_tenTimes_0 : decode cX5_tenTimes 0 = .ok (.lconst 1, 1) := by decide +kernel
theorem dX5_tenTimes_1 : decode cX5_tenTimes 1 = .ok (.lstore_n 1, 1) := by decide +kernel
theorem dX5_tenTimes_2 : decode cX5_tenTimes 2 = .ok (.iconst 0, 1) := by decide +kernel
theorem dX5_tenTimes_3 : decode cX5_tenTimes 3 = .ok (.istore_n 3, 1) := by decide +kernel
theorem dX5_tenTimes_4 : decode cX5_tenTimes 4 = .ok (.iload_n 3, 1) := by decide +kernel
theorem dX5_tenTimes_5 : decode cX5_tenTimes 5 = .ok (.iload_n 0, 1) := by decide +kernel
theorem dX5_tenTimes_6 : decode cX5_tenTimes 6 = .ok (.if_icmp .ge 15, 3) := by decide +kernel
theorem dX5_tenTimes_9 : decode cX5_tenTimes 9 = .ok (.lload_n 1, 1) := by decide +kernel
theorem dX5_tenTimes_10 : decode cX5_tenTimes 10 = .ok (.ldc2_w 320, 3) := by decide +kernel
theorem dX5_tenTimes_13 : decode cX5_tenTimes 13 = .ok (.lmul, 1) := by decide +kernel
theorem dX5_tenTimes_14 : decode cX5_tenTimes 14 = .ok (.lstore_n 1, 1) := by decide +kernel
theorem dX5_tenTimes_15 : decode cX5_tenTimes 15 = .ok (.iinc 3 1, 3) := by decide +kernel
theorem dX5_tenTimes_18 : decode cX5_tenTimes 18 = .ok (.goto (-14), 3) := by decide +kernel
theorem dX5_tenTimes_21 : decode cX5_tenTimes 21 = .ok (.lload_n 1, 1) := by decide +kernel
theorem dX5_tenTimes_22 : decode cX5_tenTimes 22 = .ok (.lreturn, 1) := by decide +kernel
set_option maxRecDepth 20000 in
theorem ggX5_partOfFraction_X5_commonDivisor : GoodIn wsX5_partOfFraction wsX5_commonDivisor := goodIn_r _ [5] (by decide +kernel) (by decide +kernel)
set_option maxRecDepth 20000 in
theorem gX5_partOfFraction_X5_commonDivisor : GoodIn wsX5_partOfFraction (va_wsS RX5 322 yX5_commonDivisor wsX5_commonDivisor) := goodIn_app (goodIn_of _ (by decide +kernel)) ggX5_partOfFraction_X5_commonDivisor
theorem dX5_partOfFraction_0 : decode cX5_partOfFraction 0 = .ok (.lload_n 0, 1) := by decide +kernel
theorem dX5_partOfFraction_1 : decode cX5_partOfFraction 1 = .ok (.lload_n 2, 1) := by decide +kernel
theorem dX5_partOfFraction_2 : decode cX5_partOfFraction 2 = .ok (.invokestatic 322, 3) := by decide +kernel
theorem dX5_partOfFraction_5 : decode cX5_partOfFraction 5 = .ok (.lstore 5, 2) := by decide +kernel
theorem dX5_partOfFraction_7 : decode cX5_partOfFraction 7 = .ok (.lload 5, 2) := by decide +kernel
theorem dX5_partOfFraction_9 : decode cX5_partOfFraction 9 = .ok (.lconst 0, 1) := by decide +kernel
theorem dX5_partOfFraction_10 : decode cX5_partOfFraction 10 = .ok (.lcmp, 1) := by decide +kernel
theorem dX5_partOfFraction_11 : decode cX5_partOfFraction 11 = .ok (.ifCond .gt 7, 3) := by decide +kernel
theorem dX5_partOfFraction_14 : decode cX5_partOfFraction 14 = .ok (.ldc2_w 227, 3) := by decide +kernel
theorem dX5_partOfFraction_17 : decode cX5_partOfFraction 17 = .ok (.lreturn, 1) := by decide +kernel
theorem dX5_partOfFraction_18 : decode cX5_partOfFraction 18 = .ok (.iload 4, 2) := by decide +kernel
theorem dX5_partOfFraction_20 : decode cX5_partOfFraction 20 = .ok (.ifCond .ne 7, 3) := by decide +kernel
theorem dX5_partOfFraction_23 : decode cX5_partOfFraction 23 = .ok (.lload_n 0, 1) := by decide +kernel
theorem dX5_partOfFraction_24 : decode cX5_partOfFraction 24 = .ok (.goto 4, 3) := by decide +kernel
theorem dX5_partOfFraction_27 : decode cX5_partOfFraction 27 = .ok (.lload_n 2, 1) := by decide +kernel
theorem dX5_partOfFraction_28 : decode cX5_partOfFraction 28 = .ok (.lload 5, 2) := by decide +kernel
theorem dX5_partOfFraction_30 : decode cX5_partOfFraction 30 = .ok (.ldiv, 1) := by decide +kernel
theorem dX5_partOfFraction_31 : decode cX5_partOfFraction 31 = .ok (.lreturn, 1) := by decide +kernel
theorem dX5_commonDivisor_0 : decode cX5_commonDivisor 0 = .ok (.lload_n 0, 1) := by decide +kernel
theorem dX5_commonDivisor_1 : decode cX5_commonDivisor 1 = .ok (.lstore 4, 2) := by decide +kernel
theorem dX5_commonDivisor_3 : decode cX5_commonDivisor 3 = .ok (.lload_n 2, 1) := by decide +kernel
theorem dX5_commonDivisor_4 : decode cX5_commonDivisor 4 = .ok (.lstore 6, 2) := by decide +kernel
theorem dX5_commonDivisor_6 : decode cX5_commonDivisor 6 = .ok (.iconst 0, 1) := by decide +kernel
theorem dX5_commonDivisor_7 : decode cX5_commonDivisor 7 = .ok (.istore 8, 2) := by decide +kernel
theorem dX5_commonDivisor_9 : decode cX5_commonDivisor 9 = .ok (.iload 8, 2) := by decide +kernel
theorem dX5_commonDivisor_11 : decode cX5_commonDivisor 11 = .ok (.bipush 100, 2) := by decide +kernel
theorem dX5_commonDivisor_13 : decode cX5_commonDivisor 13 = .ok (.if_icmp .ge 31, 3) := by decide +kernel
theorem dX5_commonDivisor_16 : decode cX5_commonDivisor 16 = .ok (.lload 6, 2) := by decide +kernel
theorem dX5_commonDivisor_18 : decode cX5_commonDivisor 18 = .ok (.lconst 0, 1) := by decide +kernel
theorem dX5_commonDivisor_19 : decode cX5_commonDivisor 19 = .ok (.lcmp, 1) := by decide +kernel
theorem dX5_commonDivisor_20 : decode cX5_commonDivisor 20 = .ok (.ifCond .eq 24, 3) := by decide +kernel
theorem dX5_commonDivisor_23 : decode cX5_commonDivisor 23 = .ok (.lload 4, 2) := by decide +kernel
theorem dX5_commonDivisor_25 : decode cX5_commonDivisor 25 = .ok (.lload 6, 2) := by decide +kernel
theorem dX5_commonDivisor_27 : decode cX5_commonDivisor 27 = .ok (.lrem, 1) := by decide +kernel
theorem dX5_commonDivisor_28 : decode cX5_commonDivisor 28 = .ok (.lstore 9, 2) := by decide +kernel
theorem dX5_commonDivisor_30 : decode cX5_commonDivisor 30 = .ok (.lload 6, 2) := by decide +kernel
theorem dX5_commonDivisor_32 : decode cX5_commonDivisor 32 = .ok (.lstore 4, 2) := by decide +kernel
theorem dX5_commonDivisor_34 : decode cX5_commonDivisor 34 = .ok (.lload 9, 2) := by decide +kernel
theorem dX5_commonDivisor_36 : decode cX5_commonDivisor 36 = .ok (.lstore 6, 2) := by decide +kernel
theorem dX5_commonDivisor_38 : decode cX5_commonDivisor 38 = .ok (.iinc 8 1, 3) := by decide +kernel
theorem dX5_commonDivisor_41 : decode cX5_commonDivisor 41 = .ok (.goto (-32), 3) := by decide +kernel
theorem dX5_commonDivisor_44 : decode cX5_commonDivisor 44 = .ok (.lload 4, 2) := by decide +kernel
theorem dX5_commonDivisor_46 : decode cX5_commonDivisor 46 = .ok (.lreturn, 1) := by decide +kernel
set_option maxRecDepth 20000 in
theorem ggX5_stepsAsSeen_X0_copyFrom : GoodIn wsX5_stepsAsSeen wsX0_copyFrom := goodIn_r _ [9, 10, 11, 12, 13, 14, 15, 16, 17, 18, 19, 20, 21, 22, 23, 72, 73, 74, 75, 76, 77, 78, 79, 80, 81] (by decide +kernel) (by decide +kernel)
set_option maxRecDepth 20000 in
theorem gX5_stepsAsSeen_X0_copyFrom : GoodIn wsX5_stepsAsSeen (wsV RX5 91 RX0 yX0_copyFrom wsX0_copyFrom) := goodIn_app (goodIn_of _ (by decide +kernel)) ggX5_stepsAsSeen_X0_copyFrom
set_option maxRecDepth 20000 in
theorem ggX5_stepsAsSeen_X2_agreeWith : GoodIn wsX5_stepsAsSeen wsX2_agreeWith := goodIn_r _ [28, 29, 30, 31, 32, 33, 34, 35, 36, 8, 37, 19, 38, 39, 40, 41, 42, 43, 44, 45, 16, 23, 46, 47, 48, 49, 10, 21, 15, 22, 50, 51, 52, 53, 17, 18, 54, 55, 56, 57, 58, 59, 60, 82, 83, 84, 85, 72, 73, 74, 75, 76, 77, 78, 79, 80, 81] (by decide +kernel) (by decide +kernel)
set_option maxRecDepth 20000 in
theorem gX5_stepsAsSeen_X2_agreeWith : GoodIn wsX5_stepsAsSeen (wsV RX5 255 RX2 yX2_agreeWith wsX2_agreeWith) := goodIn_app (goodIn_of _ (by decide +kernel)) ggX5_stepsAsSeen_X2_agreeWith
theorem dX5_stepsAsSeen_0 : decode cX5_stepsAsSeen 0 = .ok (.aload_n 0, 1) := by decide +kernel
theorem dX5_stepsAsSeen_1 : decode cX5_stepsAsSeen 1 = .ok (.getfield 16, 3) := by decide +kernel
theorem dX5_stepsAsSeen_4 : decode cX5_stepsAsSeen 4 = .ok (.aload_n 0, 1) := by decide +kernel
theorem dX5_stepsAsSeen_5 : decode cX5_stepsAsSeen 5 = .ok (.getfield 10, 3) := by decide +kernel
theorem dX5_stepsAsSeen_8 : decode cX5_stepsAsSeen 8 = .ok (.invokevirtual 91, 3) := by decide +kernel
theorem dX5_stepsAsSeen_11 : decode cX5_stepsAsSeen 11 = .ok (.iconst 0, 1) := by decide +kernel
theorem dX5_stepsAsSeen_12 : decode cX5_stepsAsSeen 12 = .ok (.istore_n 2, 1) := by decide +kernel
theorem dX5_stepsAsSeen_13 : decode cX5_stepsAsSeen 13 = .ok (.iconst 1, 1) := by decide +kernel
theorem dX5_stepsAsSeen_14 : decode cX5_stepsAsSeen 14 = .ok (.istore_n 3, 1) := by decide +kernel
theorem dX5_stepsAsSeen_15 : decode cX5_stepsAsSeen 15 = .ok (.iload_n 3, 1) := by decide +kernel
theorem dX5_stepsAsSeen_16 : decode cX5_stepsAsSeen 16 = .ok (.bipush 9, 2) := by decide +kernel
theorem dX5_stepsAsSeen_18 : decode cX5_stepsAsSeen 18 = .ok (.if_icmp .gt 39, 3) := by decide +kernel
theorem dX5_stepsAsSeen_21 : decode cX5_stepsAsSeen 21 = .ok (.aload_n 0, 1) := by decide +kernel
theorem dX5_stepsAsSeen_22 : decode cX5_stepsAsSeen 22 = .ok (.getfield 16, 3) := by decide +kernel
theorem dX5_stepsAsSeen_25 : decode cX5_stepsAsSeen 25 = .ok (.getfield 142, 3) := by decide +kernel
theorem dX5_stepsAsSeen_28 : decode cX5_stepsAsSeen 28 = .ok (.iload_n 1, 1) := by decide +kernel
theorem dX5_stepsAsSeen_29 : decode cX5_stepsAsSeen 29 = .ok (.iload_n 3, 1) := by decide +kernel
theorem dX5_stepsAsSeen_30 : decode cX5_stepsAsSeen 30 = .ok (.iastore, 1) := by decide +kernel
theorem dX5_stepsAsSeen_31 : decode cX5_stepsAsSeen 31 = .ok (.aload_n 0, 1) := by decide +kernel
theorem dX5_stepsAsSeen_32 : decode cX5_stepsAsSeen 32 = .ok (.getfield 37, 3) := by decide +kernel
theorem dX5_stepsAsSeen_35 : decode cX5_stepsAsSeen 35 = .ok (.aload_n 0, 1) := by decide +kernel
theorem dX5_stepsAsSeen_36 : decode cX5_stepsAsSeen 36 = .ok (.getfield 16, 3) := by decide +kernel
theorem dX5_stepsAsSeen_39 : decode cX5_stepsAsSeen 39 = .ok (.invokevirtual 255, 3) := by decide +kernel
theorem dX5_stepsAsSeen_42 : decode cX5_stepsAsSeen 42 = .ok (.ifCond .eq 9, 3) := by decide +kernel
theorem dX5_stepsAsSeen_45 : decode cX5_stepsAsSeen 45 = .ok (.iload_n 2, 1) := by decide +kernel
theorem dX5_stepsAsSeen_46 : decode cX5_stepsAsSeen 46 = .ok (.iconst 1, 1) := by decide +kernel
theorem dX5_stepsAsSeen_47 : decode cX5_stepsAsSeen 47 = .ok (.iload_n 3, 1) := by decide +kernel
theorem dX5_stepsAsSeen_48 : decode cX5_stepsAsSeen 48 = .ok (.ishl, 1) := by decide +kernel
theorem dX5_stepsAsSeen_49 : decode cX5_stepsAsSeen 49 = .ok (.ior, 1) := by decide +kernel
theorem dX5_stepsAsSeen_50 : decode cX5_stepsAsSeen 50 = .ok (.istore_n 2, 1) := by decide +kernel
theorem dX5_stepsAsSeen_51 : decode cX5_stepsAsSeen 51 = .ok (.iinc 3 1, 3) := by decide +kernel
theorem dX5_stepsAsSeen_54 : decode cX5_stepsAsSeen 54 = .ok (.goto (-39), 3) := by decide +kernel
theorem dX5_stepsAsSeen_57 : decode cX5_stepsAsSeen 57 = .ok (.iload_n 2, 1) := by decide +kernel
theorem dX5_stepsAsSeen_58 : decode cX5_stepsAsSeen 58 = .ok (.ireturn, 1) := by decide +kernel
set_option maxRecDepth 20000 in
theorem ggX5_mostAlike_X5_countAlike : GoodIn wsX5_mostAlike wsX5_countAlike := goodIn_r _ [10, 1, 11, 12, 13, 14, 15, 16, 17, 18, 19, 20, 21] (by decide +kernel) (by decide +kernel)
set_option maxRecDepth 20000 in
theorem gX5_mostAlike_X5_countAlike : GoodIn wsX5_mostAlike (wsV RX5 326 RX5 yX5_countAlike wsX5_countAlike) := goodIn_app (goodIn_of _ (by decide +kernel)) ggX5_mostAlike_X5_countAlike
theorem dX5_mostAlike_0 : decode cX5_mostAlike 0 = .ok (.iconst 0, 1) := by decide +kernel
theorem dX5_mostAlike_1 : decode cX5_mostAlike 1 = .ok (.istore_n 2, 1) := by decide +kernel
theorem dX5_mostAlike_2 : decode cX5_mostAlike 2 = .ok (.iconst 1, 1) := by decide +kernel
theorem dX5_mostAlike_3 : decode cX5_mostAlike 3 = .ok (.istore_n 3, 1) := by decide +kernel
theorem dX5_mostAlike_4 : decode cX5_mostAlike 4 = .ok (.iload_n 3, 1) := by decide +kernel
theorem dX5_mostAlike_5 : decode cX5_mostAlike 5 = .ok (.bipush 9, 2) := by decide +kernel
theorem dX5_mostAlike_7 : decode cX5_mostAlike 7 = .ok (.if_icmp .gt 33, 3) := by decide +kernel
theorem dX5_mostAlike_10 : decode cX5_mostAlike 10 = .ok (.iload_n 1, 1) := by decide +kernel
theorem dX5_mostAlike_11 : decode cX5_mostAlike 11 = .ok (.iload_n 3, 1) := by decide +kernel
theorem dX5_mostAlike_12 : decode cX5_mostAlike 12 = .ok (.ishr, 1) := by decide +kernel
theorem dX5_mostAlike_13 : decode cX5_mostAlike 13 = .ok (.iconst 1, 1) := by decide +kernel
theorem dX5_mostAlike_14 : decode cX5_mostAlike 14 = .ok (.iand, 1) := by decide +kernel
theorem dX5_mostAlike_15 : decode cX5_mostAlike 15 = .ok (.ifCond .eq 19, 3) := by decide +kernel
theorem dX5_mostAlike_18 : decode cX5_mostAlike 18 = .ok (.iload_n 2, 1) := by decide +kernel
theorem dX5_mostAlike_19 : decode cX5_mostAlike 19 = .ok (.aload_n 0, 1) := by decide +kernel
theorem dX5_mostAlike_20 : decode cX5_mostAlike 20 = .ok (.iload_n 1, 1) := by decide +kernel
theorem dX5_mostAlike_21 : decode cX5_mostAlike 21 = .ok (.aload_n 0, 1) := by decide +kernel
theorem dX5_mostAlike_22 : decode cX5_mostAlike 22 = .ok (.getfield 51, 3) := by decide +kernel
theorem dX5_mostAlike_25 : decode cX5_mostAlike 25 = .ok (.iload_n 3, 1) := by decide +kernel
theorem dX5_mostAlike_26 : decode cX5_mostAlike 26 = .ok (.iaload, 1) := by decide +kernel
theorem dX5_mostAlike_27 : decode cX5_mostAlike 27 = .ok (.invokevirtual 326, 3) := by decide +kernel
theorem dX5_mostAlike_30 : decode cX5_mostAlike 30 = .ok (.invokestatic 317, 3) := by decide +kernel
theorem dX5_mostAlike_33 : decode cX5_mostAlike 33 = .ok (.istore_n 2, 1) := by decide +kernel
theorem dX5_mostAlike_34 : decode cX5_mostAlike 34 = .ok (.iinc 3 1, 3) := by decide +kernel
theorem dX5_mostAlike_37 : decode cX5_mostAlike 37 = .ok (.goto (-33), 3) := by decide +kernel
theorem dX5_mostAlike_40 : decode cX5_mostAlike 40 = .ok (.iload_n 2, 1) := by decide +kernel
theorem dX5_mostAlike_41 : decode cX5_mostAlike 41 = .ok (.ireturn, 1) := by decide +kernel
theorem dX5_countAlike_0 : decode cX5_countAlike 0 = .ok (.iconst 0, 1) := by decide +kernel
theorem dX5_countAlike_1 : decode cX5_countAlike 1 = .ok (.istore_n 3, 1) := by decide +kernel
theorem dX5_countAlike_2 : decode cX5_countAlike 2 = .ok (.iconst 1, 1) := by decide +kernel
theorem dX5_countAlike_3 : decode cX5_countAlike 3 = .ok (.istore 4, 2) := by decide +kernel
theorem dX5_countAlike_5 : decode cX5_countAlike 5 = .ok (.iload 4, 2) := by decide +kernel
theorem dX5_countAlike_7 : decode cX5_countAlike 7 = .ok (.bipush 9, 2) := by decide +kernel
theorem dX5_countAlike_9 : decode cX5_countAlike 9 = .ok (.if_icmp .gt 32, 3) := by decide +kernel
theorem dX5_countAlike_12 : decode cX5_countAlike 12 = .ok (.iload_n 1, 1) := by decide +kernel
theorem dX5_countAlike_13 : decode cX5_countAlike 13 = .ok (.iload 4, 2) := by decide +kernel
theorem dX5_countAlike_15 : decode cX5_countAlike 15 = .ok (.ishr, 1) := by decide +kernel
theorem dX5_countAlike_16 : decode cX5_countAlike 16 = .ok (.iconst 1, 1) := by decide +kernel
theorem dX5_countAlike_17 : decode cX5_countAlike 17 = .ok (.iand, 1) := by decide +kernel
theorem dX5_countAlike_18 : decode cX5_countAlike 18 = .ok (.ifCond .eq 17, 3) := by decide +kernel
theorem dX5_countAlike_21 : decode cX5_countAlike 21 = .ok (.aload_n 0, 1) := by decide +kernel
theorem dX5_countAlike_22 : decode cX5_countAlike 22 = .ok (.getfield 51, 3) := by decide +kernel
theorem dX5_countAlike_25 : decode cX5_countAlike 25 = .ok (.iload 4, 2) := by decide +kernel
theorem dX5_countAlike_27 : decode cX5_countAlike 27 = .ok (.iaload, 1) := by decide +kernel
theorem dX5_countAlike_28 : decode cX5_countAlike 28 = .ok (.iload_n 2, 1) := by decide +kernel
theorem dX5_countAlike_29 : decode cX5_countAlike 29 = .ok (.if_icmp .ne 6, 3) := by decide +kernel
theorem dX5_countAlike_32 : decode cX5_countAlike 32 = .ok (.iinc 3 1, 3) := by decide +kernel
theorem dX5_countAlike_35 : decode cX5_countAlike 35 = .ok (.iinc 4 1, 3) := by decide +kernel
theorem dX5_countAlike_38 : decode cX5_countAlike 38 = .ok (.goto (-33), 3) := by decide +kernel
theorem dX5_countAlike_41 : decode cX5_countAlike 41 = .ok (.iload_n 3, 1) := by decide +kernel
theorem dX5_countAlike_42 : decode cX5_countAlike 42 = .ok (.ireturn, 1) := by decide +kernel
set_option maxRecDepth 20000 in
theorem ggX5_rollEachStep_X0_roll : GoodIn wsX5_rollEachStep wsX0_roll := goodIn_r _ [5, 6, 7, 8, 9] (by decide +kernel) (by decide +kernel)
set_option maxRecDepth 20000 in
theorem gX5_rollEachStep_X0_roll : GoodIn wsX5_rollEachStep (va_wsS RX5 329 yX0_roll wsX0_roll) := goodIn_app (goodIn_of _ (by decide +kernel)) ggX5_rollEachStep_X0_roll
theorem dX5_rollEachStep_0 : decode cX5_rollEachStep 0 = .ok (.iconst 1, 1) := by decide +kernel
theorem dX5_rollEachStep_1 : decode cX5_rollEachStep 1 = .ok (.istore_n 3, 1) := by decide +kernel
theorem dX5_rollEachStep_2 : decode cX5_rollEachStep 2 = .ok (.iload_n 3, 1) := by decide +kernel
theorem dX5_rollEachStep_3 : decode cX5_rollEachStep 3 = .ok (.bipush 9, 2) := by decide +kernel
theorem dX5_rollEachStep_5 : decode cX5_rollEachStep 5 = .ok (.if_icmp .gt 24, 3) := by decide +kernel
theorem dX5_rollEachStep_8 : decode cX5_rollEachStep 8 = .ok (.aload_n 0, 1) := by decide +kernel
theorem dX5_rollEachStep_9 : decode cX5_rollEachStep 9 = .ok (.getfield 51, 3) := by decide +kernel
theorem dX5_rollEachStep_12 : decode cX5_rollEachStep 12 = .ok (.iload_n 3, 1) := by decide +kernel
theorem dX5_rollEachStep_13 : decode cX5_rollEachStep 13 = .ok (.dup2, 1) := by decide +kernel
theorem dX5_rollEachStep_14 : decode cX5_rollEachStep 14 = .ok (.iaload, 1) := by decide +kernel
theorem dX5_rollEachStep_15 : decode cX5_rollEachStep 15 = .ok (.iload_n 1, 1) := by decide +kernel
theorem dX5_rollEachStep_16 : decode cX5_rollEachStep 16 = .ok (.iload_n 3, 1) := by decide +kernel
theorem dX5_rollEachStep_17 : decode cX5_rollEachStep 17 = .ok (.iload_n 2, 1) := by decide +kernel
theorem dX5_rollEachStep_18 : decode cX5_rollEachStep 18 = .ok (.invokestatic 329, 3) := by decide +kernel
theorem dX5_rollEachStep_21 : decode cX5_rollEachStep 21 = .ok (.iadd, 1) := by decide +kernel
theorem dX5_rollEachStep_22 : decode cX5_rollEachStep 22 = .ok (.iastore, 1) := by decide +kernel
theorem dX5_rollEachStep_23 : decode cX5_rollEachStep 23 = .ok (.iinc 3 1, 3) := by decide +kernel
theorem dX5_rollEachStep_26 : decode cX5_rollEachStep 26 = .ok (.goto (-24), 3) := by decide +kernel
theorem dX5_rollEachStep_29 : decode cX5_rollEachStep 29 = .ok (.return_, 1) := by decide +kernel
