theorem dX0_init_0 : decode cX0_init 0 = .ok (.aload_n 0, 1) := by decide +kernel
theorem dX0_init_1 : decode cX0_init 1 = .ok (.invokespecial 3, 3) := by decide +kernel
theorem dX0_init_4 : decode cX0_init 4 = .ok (.aload_n 0, 1) := by decide +kernel
theorem dX0_init_5 : decode cX0_init 5 = .ok (.bipush 10, 2) := by decide +kernel
theorem dX0_init_7 : decode cX0_init 7 = .ok (.newarray .int, 2) := by decide +kernel
theorem dX0_init_9 : decode cX0_init 9 = .ok (.putfield 9, 3) := by decide +kernel
theorem dX0_init_12 : decode cX0_init 12 = .ok (.aload_n 0, 1) := by decide +kernel
theorem dX0_init_13 : decode cX0_init 13 = .ok (.bipush 10, 2) := by decide +kernel
theorem dX0_init_15 : decode cX0_init 15 = .ok (.newarray .int, 2) := by decide +kernel
theorem dX0_init_17 : decode cX0_init 17 = .ok (.putfield 15, 3) := by decide +kernel
theorem dX0_init_20 : decode cX0_init 20 = .ok (.aload_n 0, 1) := by decide +kernel
theorem dX0_init_21 : decode cX0_init 21 = .ok (.iconst 0, 1) := by decide +kernel
theorem dX0_init_22 : decode cX0_init 22 = .ok (.putfield 18, 3) := by decide +kernel
theorem dX0_init_25 : decode cX0_init 25 = .ok (.aload_n 0, 1) := by decide +kernel
theorem dX0_init_26 : decode cX0_init 26 = .ok (.iconst 4, 1) := by decide +kernel
theorem dX0_init_27 : decode cX0_init 27 = .ok (.newarray .int, 2) := by decide +kernel
theorem dX0_init_29 : decode cX0_init 29 = .ok (.putfield 22, 3) := by decide +kernel
theorem dX0_init_32 : decode cX0_init 32 = .ok (.aload_n 0, 1) := by decide +kernel
theorem dX0_init_33 : decode cX0_init 33 = .ok (.iconst 4, 1) := by decide +kernel
theorem dX0_init_34 : decode cX0_init 34 = .ok (.newarray .int, 2) := by decide +kernel
theorem dX0_init_36 : decode cX0_init 36 = .ok (.putfield 25, 3) := by decide +kernel
theorem dX0_init_39 : decode cX0_init 39 = .ok (.aload_n 0, 1) := by decide +kernel
theorem dX0_init_40 : decode cX0_init 40 = .ok (.iconst 4, 1) := by decide +kernel
theorem dX0_init_41 : decode cX0_init 41 = .ok (.newarray .int, 2) := by decide +kernel
theorem dX0_init_43 : decode cX0_init 43 = .ok (.putfield 28, 3) := by decide +kernel
theorem dX0_init_46 : decode cX0_init 46 = .ok (.aload_n 0, 1) := by decide +kernel
theorem dX0_init_47 : decode cX0_init 47 = .ok (.iconst 0, 1) := by decide +kernel
theorem dX0_init_48 : decode cX0_init 48 = .ok (.putfield 31, 3) := by decide +kernel
theorem dX0_init_51 : decode cX0_init 51 = .ok (.aload_n 0, 1) := by decide +kernel
theorem dX0_init_52 : decode cX0_init 52 = .ok (.iconst 0, 1) := by decide +kernel
theorem dX0_init_53 : decode cX0_init 53 = .ok (.putfield 34, 3) := by decide +kernel
theorem dX0_init_56 : decode cX0_init 56 = .ok (.aload_n 0, 1) := by decide +kernel
theorem dX0_init_57 : decode cX0_init 57 = .ok (.iconst 0, 1) := by decide +kernel
theorem dX0_init_58 : decode cX0_init 58 = .ok (.putfield 37, 3) := by decide +kernel
theorem dX0_init_61 : decode cX0_init 61 = .ok (.aload_n 0, 1) := by decide +kernel
theorem dX0_init_62 : decode cX0_init 62 = .ok (.iconst 0, 1) := by decide +kernel
theorem dX0_init_63 : decode cX0_init 63 = .ok (.putfield 40, 3) := by decide +kernel
theorem dX0_init_66 : decode cX0_init 66 = .ok (.return_, 1) := by decide +kernel
theorem dX0_clear_0 : decode cX0_clear 0 = .ok (.aload_n 0, 1) := by decide +kernel
theorem dX0_clear_1 : decode cX0_clear 1 = .ok (.iconst 0, 1) := by decide +kernel
theorem dX0_clear_2 : decode cX0_clear 2 = .ok (.putfield 18, 3) := by decide +kernel
theorem dX0_clear_5 : decode cX0_clear 5 = .ok (.aload_n 0, 1) := by decide +kernel
theorem dX0_clear_6 : decode cX0_clear 6 = .ok (.iconst 0, 1) := by decide +kernel
theorem dX0_clear_7 : decode cX0_clear 7 = .ok (.putfield 31, 3) := by decide +kernel
theorem dX0_clear_10 : decode cX0_clear 10 = .ok (.aload_n 0, 1) := by decide +kernel
theorem dX0_clear_11 : decode cX0_clear 11 = .ok (.iconst 0, 1) := by decide +kernel
theorem dX0_clear_12 : decode cX0_clear 12 = .ok (.putfield 34, 3) := by decide +kernel
theorem dX0_clear_15 : decode cX0_clear 15 = .ok (.aload_n 0, 1) := by decide +kernel
theorem dX0_clear_16 : decode cX0_clear 16 = .ok (.iconst 0, 1) := by decide +kernel
theorem dX0_clear_17 : decode cX0_clear 17 = .ok (.putfield 37, 3) := by decide +kernel
theorem dX0_clear_20 : decode cX0_clear 20 = .ok (.aload_n 0, 1) := by decide +kernel
theorem dX0_clear_21 : decode cX0_clear 21 = .ok (.iconst 0, 1) := by decide +kernel
theorem dX0_clear_22 : decode cX0_clear 22 = .ok (.putfield 40, 3) := by decide +kernel
theorem dX0_clear_25 : decode cX0_clear 25 = .ok (.return_, 1) := by decide +kernel
theorem dX0_copyFrom_0 : decode cX0_copyFrom 0 = .ok (.aload_n 1, 1) := by decide +kernel
theorem dX0_copyFrom_1 : decode cX0_copyFrom 1 = .ok (.getfield 9, 3) := by decide +kernel
theorem dX0_copyFrom_4 : decode cX0_copyFrom 4 = .ok (.iconst 0, 1) := by decide +kernel
theorem dX0_copyFrom_5 : decode cX0_copyFrom 5 = .ok (.aload_n 0, 1) := by decide +kernel
theorem dX0_copyFrom_6 : decode cX0_copyFrom 6 = .ok (.getfield 9, 3) := by decide +kernel
theorem dX0_copyFrom_9 : decode cX0_copyFrom 9 = .ok (.iconst 0, 1) := by decide +kernel
theorem dX0_copyFrom_10 : decode cX0_copyFrom 10 = .ok (.bipush 10, 2) := by decide +kernel
theorem dX0_copyFrom_12 : decode cX0_copyFrom 12 = .ok (.invokestatic 43, 3) := by decide +kernel
theorem dX0_copyFrom_15 : decode cX0_copyFrom 15 = .ok (.aload_n 1, 1) := by decide +kernel
theorem dX0_copyFrom_16 : decode cX0_copyFrom 16 = .ok (.getfield 15, 3) := by decide +kernel
theorem dX0_copyFrom_19 : decode cX0_copyFrom 19 = .ok (.iconst 0, 1) := by decide +kernel
theorem dX0_copyFrom_20 : decode cX0_copyFrom 20 = .ok (.aload_n 0, 1) := by decide +kernel
theorem dX0_copyFrom_21 : decode cX0_copyFrom 21 = .ok (.getfield 15, 3) := by decide +kernel
theorem dX0_copyFrom_24 : decode cX0_copyFrom 24 = .ok (.iconst 0, 1) := by decide +kernel
theorem dX0_copyFrom_25 : decode cX0_copyFrom 25 = .ok (.bipush 10, 2) := by decide +kernel
theorem dX0_copyFrom_27 : decode cX0_copyFrom 27 = .ok (.invokestatic 43, 3) := by decide +kernel
theorem dX0_copyFrom_30 : decode cX0_copyFrom 30 = .ok (.aload_n 0, 1) := by decide +kernel
theorem dX0_copyFrom_31 : decode cX0_copyFrom 31 = .ok (.aload_n 1, 1) := by decide +kernel
theorem dX0_copyFrom_32 : decode cX0_copyFrom 32 = .ok (.getfield 18, 3) := by decide +kernel
theorem dX0_copyFrom_35 : decode cX0_copyFrom 35 = .ok (.putfield 18, 3) := by decide +kernel
theorem dX0_copyFrom_38 : decode cX0_copyFrom 38 = .ok (.aload_n 1, 1) := by decide +kernel
theorem dX0_copyFrom_39 : decode cX0_copyFrom 39 = .ok (.getfield 22, 3) := by decide +kernel
theorem dX0_copyFrom_42 : decode cX0_copyFrom 42 = .ok (.iconst 0, 1) := by decide +kernel
theorem dX0_copyFrom_43 : decode cX0_copyFrom 43 = .ok (.aload_n 0, 1) := by decide +kernel
theorem dX0_copyFrom_44 : decode cX0_copyFrom 44 = .ok (.getfield 22, 3) := by decide +kernel
theorem dX0_copyFrom_47 : decode cX0_copyFrom 47 = .ok (.iconst 0, 1) := by decide +kernel
theorem dX0_copyFrom_48 : decode cX0_copyFrom 48 = .ok (.iconst 4, 1) := by decide +kernel
theorem dX0_copyFrom_49 : decode cX0_copyFrom 49 = .ok (.invokestatic 43, 3) := by decide +kernel
theorem dX0_copyFrom_52 : decode cX0_copyFrom 52 = .ok (.aload_n 1, 1) := by decide +kernel
theorem dX0_copyFrom_53 : decode cX0_copyFrom 53 = .ok (.getfield 25, 3) := by decide +kernel
theorem dX0_copyFrom_56 : decode cX0_copyFrom 56 = .ok (.iconst 0, 1) := by decide +kernel
theorem dX0_copyFrom_57 : decode cX0_copyFrom 57 = .ok (.aload_n 0, 1) := by decide +kernel
theorem dX0_copyFrom_58 : decode cX0_copyFrom 58 = .ok (.getfield 25, 3) := by decide +kernel
theorem dX0_copyFrom_61 : decode cX0_copyFrom 61 = .ok (.iconst 0, 1) := by decide +kernel
theorem dX0_copyFrom_62 : decode cX0_copyFrom 62 = .ok (.iconst 4, 1) := by decide +kernel
theorem dX0_copyFrom_63 : decode cX0_copyFrom 63 = .ok (.invokestatic 43, 3) := by decide +kernel
theorem dX0_copyFrom_66 : decode cX0_copyFrom 66 = .ok (.aload_n 1, 1) := by decide +kernel
theorem dX0_copyFrom_67 : decode cX0_copyFrom 67 = .ok (.getfield 28, 3) := by decide +kernel
theorem dX0_copyFrom_70 : decode cX0_copyFrom 70 = .ok (.iconst 0, 1) := by decide +kernel
theorem dX0_copyFrom_71 : decode cX0_copyFrom 71 = .ok (.aload_n 0, 1) := by decide +kernel
theorem dX0_copyFrom_72 : decode cX0_copyFrom 72 = .ok (.getfield 28, 3) := by decide +kernel
theorem dX0_copyFrom_75 : decode cX0_copyFrom 75 = .ok (.iconst 0, 1) := by decide +kernel
theorem dX0_copyFrom_76 : decode cX0_copyFrom 76 = .ok (.iconst 4, 1) := by decide +kernel
theorem dX0_copyFrom_77 : decode cX0_copyFrom 77 = .ok (.invokestatic 43, 3) := by decide +kernel
theorem dX0_copyFrom_80 : decode cX0_copyFrom 80 = .ok (.aload_n 0, 1) := by decide +kernel
theorem dX0_copyFrom_81 : decode cX0_copyFrom 81 = .ok (.aload_n 1, 1) := by decide +kernel
theorem dX0_copyFrom_82 : decode cX0_copyFrom 82 = .ok (.getfield 31, 3) := by decide +kernel
theorem dX0_copyFrom_85 : decode cX0_copyFrom 85 = .ok (.putfield 31, 3) := by decide +kernel
theorem dX0_copyFrom_88 : decode cX0_copyFrom 88 = .ok (.aload_n 0, 1) := by decide +kernel
theorem dX0_copyFrom_89 : decode cX0_copyFrom 89 = .ok (.aload_n 1, 1) := by decide +kernel
theorem dX0_copyFrom_90 : decode cX0_copyFrom 90 = .ok (.getfield 34, 3) := by decide +kernel
theorem dX0_copyFrom_93 : decode cX0_copyFrom 93 = .ok (.putfield 34, 3) := by decide +kernel
theorem dX0_copyFrom_96 : decode cX0_copyFrom 96 = .ok (.aload_n 0, 1) := by decide +kernel
theorem dX0_copyFrom_97 : decode cX0_copyFrom 97 = .ok (.aload_n 1, 1) := by decide +kernel
theorem dX0_copyFrom_98 : decode cX0_copyFrom 98 = .ok (.getfield 37, 3) := by decide +kernel
theorem dX0_copyFrom_101 : decode cX0_copyFrom 101 = .ok (.putfield 37, 3) := by decide +kernel
theorem dX0_copyFrom_104 : decode cX0_copyFrom 104 = .ok (.aload_n 0, 1) := by decide +kernel
theorem dX0_copyFrom_105 : decode cX0_copyFrom 105 = .ok (.aload_n 1, 1) := by decide +kernel
theorem dX0_copyFrom_106 : decode cX0_copyFrom 106 = .ok (.getfield 40, 3) := by decide +kernel
theorem dX0_copyFrom_109 : decode cX0_copyFrom 109 = .ok (.putfield 40, 3) := by decide +kernel
theorem dX0_copyFrom_112 : decode cX0_copyFrom 112 = .ok (.return_, 1) := by decide +kernel
theorem dX0_appendCorner_0 : decode cX0_appendCorner 0 = .ok (.aload_n 0, 1) := by decide +kernel
theorem dX0_appendCorner_1 : decode cX0_appendCorner 1 = .ok (.getfield 18, 3) := by decide +kernel
theorem dX0_appendCorner_4 : decode cX0_appendCorner 4 = .ok (.bipush 10, 2) := by decide +kernel
theorem dX0_appendCorner_6 : decode cX0_appendCorner 6 = .ok (.if_icmp .ge 33, 3) := by decide +kernel
theorem dX0_appendCorner_9 : decode cX0_appendCorner 9 = .ok (.aload_n 0, 1) := by decide +kernel
theorem dX0_appendCorner_10 : decode cX0_appendCorner 10 = .ok (.getfield 9, 3) := by decide +kernel
theorem dX0_appendCorner_13 : decode cX0_appendCorner 13 = .ok (.aload_n 0, 1) := by decide +kernel
theorem dX0_appendCorner_14 : decode cX0_appendCorner 14 = .ok (.getfield 18, 3) := by decide +kernel
theorem dX0_appendCorner_17 : decode cX0_appendCorner 17 = .ok (.iload_n 1, 1) := by decide +kernel
theorem dX0_appendCorner_18 : decode cX0_appendCorner 18 = .ok (.iastore, 1) := by decide +kernel
theorem dX0_appendCorner_19 : decode cX0_appendCorner 19 = .ok (.aload_n 0, 1) := by decide +kernel
theorem dX0_appendCorner_20 : decode cX0_appendCorner 20 = .ok (.getfield 15, 3) := by decide +kernel
theorem dX0_appendCorner_23 : decode cX0_appendCorner 23 = .ok (.aload_n 0, 1) := by decide +kernel
theorem dX0_appendCorner_24 : decode cX0_appendCorner 24 = .ok (.getfield 18, 3) := by decide +kernel
theorem dX0_appendCorner_27 : decode cX0_appendCorner 27 = .ok (.iload_n 2, 1) := by decide +kernel
theorem dX0_appendCorner_28 : decode cX0_appendCorner 28 = .ok (.iastore, 1) := by decide +kernel
theorem dX0_appendCorner_29 : decode cX0_appendCorner 29 = .ok (.aload_n 0, 1) := by decide +kernel
theorem dX0_appendCorner_30 : decode cX0_appendCorner 30 = .ok (.dup, 1) := by decide +kernel
theorem dX0_appendCorner_31 : decode cX0_appendCorner 31 = .ok (.getfield 18, 3) := by decide +kernel
theorem dX0_appendCorner_34 : decode cX0_appendCorner 34 = .ok (.iconst 1, 1) := by decide +kernel
theorem dX0_appendCorner_35 : decode cX0_appendCorner 35 = .ok (.iadd, 1) := by decide +kernel
theorem dX0_appendCorner_36 : decode cX0_appendCorner 36 = .ok (.putfield 18, 3) := by decide +kernel
theorem dX0_appendCorner_39 : decode cX0_appendCorner 39 = .ok (.return_, 1) := by decide +kernel
theorem dX0_moveCorner_0 : decode cX0_moveCorner 0 = .ok (.aload_n 0, 1) := by decide +kernel
theorem dX0_moveCorner_1 : decode cX0_moveCorner 1 = .ok (.getfield 9, 3) := by decide +kernel
theorem dX0_moveCorner_4 : decode cX0_moveCorner 4 = .ok (.iload_n 1, 1) := by decide +kernel
theorem dX0_moveCorner_5 : decode cX0_moveCorner 5 = .ok (.iload_n 2, 1) := by decide +kernel
theorem dX0_moveCorner_6 : decode cX0_moveCorner 6 = .ok (.iastore, 1) := by decide +kernel
theorem dX0_moveCorner_7 : decode cX0_moveCorner 7 = .ok (.aload_n 0, 1) := by decide +kernel
theorem dX0_moveCorner_8 : decode cX0_moveCorner 8 = .ok (.getfield 15, 3) := by decide +kernel
theorem dX0_moveCorner_11 : decode cX0_moveCorner 11 = .ok (.iload_n 1, 1) := by decide +kernel
theorem dX0_moveCorner_12 : decode cX0_moveCorner 12 = .ok (.iload_n 3, 1) := by decide +kernel
theorem dX0_moveCorner_13 : decode cX0_moveCorner 13 = .ok (.iastore, 1) := by decide +kernel
theorem dX0_moveCorner_14 : decode cX0_moveCorner 14 = .ok (.return_, 1) := by decide +kernel
set_option maxRecDepth 20000 in
theorem ggX0_exchangeCorners_X0_moveCorner : GoodIn wsX0_exchangeCorners wsX0_moveCorner := goodIn_r _ [7, 1, 2, 8, 9, 10, 11, 12, 13, 14, 15, 16, 17] (by decide +kernel) (by decide +kernel)
set_option maxRecDepth 20000 in
theorem gX0_exchangeCorners_X0_moveCorner : GoodIn wsX0_exchangeCorners (wsV RX0 49 RX0 yX0_moveCorner wsX0_moveCorner) := goodIn_app (goodIn_of _ (by decide +kernel)) ggX0_exchangeCorners_X0_moveCorner
theorem dX0_exchangeCorners_0 : decode cX0_exchangeCorners 0 = .ok (.aload_n 0, 1) := by decide +kernel
theorem dX0_exchangeCorners_1 : decode cX0_exchangeCorners 1 = .ok (.getfield 9, 3) := by decide +kernel
theorem dX0_exchangeCorners_4 : decode cX0_exchangeCorners 4 = .ok (.iload_n 1, 1) := by decide +kernel
theorem dX0_exchangeCorners_5 : decode cX0_exchangeCorners 5 = .ok (.iaload, 1) := by decide +kernel
theorem dX0_exchangeCorners_6 : decode cX0_exchangeCorners 6 = .ok (.istore_n 3, 1) := by decide +kernel
theorem dX0_exchangeCorners_7 : decode cX0_exchangeCorners 7 = .ok (.aload_n 0, 1) := by decide +kernel
theorem dX0_exchangeCorners_8 : decode cX0_exchangeCorners 8 = .ok (.getfield 15, 3) := by decide +kernel
theorem dX0_exchangeCorners_11 : decode cX0_exchangeCorners 11 = .ok (.iload_n 1, 1) := by decide +kernel
theorem dX0_exchangeCorners_12 : decode cX0_exchangeCorners 12 = .ok (.iaload, 1) := by decide +kernel
theorem dX0_exchangeCorners_13 : decode cX0_exchangeCorners 13 = .ok (.istore 4, 2) := by decide +kernel
theorem dX0_exchangeCorners_15 : decode cX0_exchangeCorners 15 = .ok (.aload_n 0, 1) := by decide +kernel
theorem dX0_exchangeCorners_16 : decode cX0_exchangeCorners 16 = .ok (.iload_n 1, 1) := by decide +kernel
theorem dX0_exchangeCorners_17 : decode cX0_exchangeCorners 17 = .ok (.aload_n 0, 1) := by decide +kernel
theorem dX0_exchangeCorners_18 : decode cX0_exchangeCorners 18 = .ok (.getfield 9, 3) := by decide +kernel
theorem dX0_exchangeCorners_21 : decode cX0_exchangeCorners 21 = .ok (.iload_n 2, 1) := by decide +kernel
theorem dX0_exchangeCorners_22 : decode cX0_exchangeCorners 22 = .ok (.iaload, 1) := by decide +kernel
theorem dX0_exchangeCorners_23 : decode cX0_exchangeCorners 23 = .ok (.aload_n 0, 1) := by decide +kernel
theorem dX0_exchangeCorners_24 : decode cX0_exchangeCorners 24 = .ok (.getfield 15, 3) := by decide +kernel
theorem dX0_exchangeCorners_27 : decode cX0_exchangeCorners 27 = .ok (.iload_n 2, 1) := by decide +kernel
theorem dX0_exchangeCorners_28 : decode cX0_exchangeCorners 28 = .ok (.iaload, 1) := by decide +kernel
theorem dX0_exchangeCorners_29 : decode cX0_exchangeCorners 29 = .ok (.invokevirtual 49, 3) := by decide +kernel
theorem dX0_exchangeCorners_32 : decode cX0_exchangeCorners 32 = .ok (.aload_n 0, 1) := by decide +kernel
theorem dX0_exchangeCorners_33 : decode cX0_exchangeCorners 33 = .ok (.iload_n 2, 1) := by decide +kernel
theorem dX0_exchangeCorners_34 : decode cX0_exchangeCorners 34 = .ok (.iload_n 3, 1) := by decide +kernel
theorem dX0_exchangeCorners_35 : decode cX0_exchangeCorners 35 = .ok (.iload 4, 2) := by decide +kernel
theorem dX0_exchangeCorners_37 : decode cX0_exchangeCorners 37 = .ok (.invokevirtual 49, 3) := by decide +kernel
theorem dX0_exchangeCorners_40 : decode cX0_exchangeCorners 40 = .ok (.return_, 1) := by decide +kernel
set_option maxRecDepth 20000 in
theorem ggX0_removeCorner_X0_moveCorner : GoodIn wsX0_removeCorner wsX0_moveCorner := goodIn_r _ [8, 2, 3, 9, 10, 11, 12, 13, 14, 15, 16, 17, 18] (by decide +kernel) (by decide +kernel)
set_option maxRecDepth 20000 in
theorem gX0_removeCorner_X0_moveCorner : GoodIn wsX0_removeCorner (wsV RX0 49 RX0 yX0_moveCorner wsX0_moveCorner) := goodIn_app (goodIn_of _ (by decide +kernel)) ggX0_removeCorner_X0_moveCorner
theorem dX0_removeCorner_0 : decode cX0_removeCorner 0 = .ok (.iload_n 1, 1) := by decide +kernel
theorem dX0_removeCorner_1 : decode cX0_removeCorner 1 = .ok (.iconst 1, 1) := by decide +kernel
theorem dX0_removeCorner_2 : decode cX0_removeCorner 2 = .ok (.iadd, 1) := by decide +kernel
theorem dX0_removeCorner_3 : decode cX0_removeCorner 3 = .ok (.istore_n 2, 1) := by decide +kernel
theorem dX0_removeCorner_4 : decode cX0_removeCorner 4 = .ok (.iload_n 2, 1) := by decide +kernel
theorem dX0_removeCorner_5 : decode cX0_removeCorner 5 = .ok (.aload_n 0, 1) := by decide +kernel
theorem dX0_removeCorner_6 : decode cX0_removeCorner 6 = .ok (.getfield 18, 3) := by decide +kernel
theorem dX0_removeCorner_9 : decode cX0_removeCorner 9 = .ok (.if_icmp .ge 28, 3) := by decide +kernel
theorem dX0_removeCorner_12 : decode cX0_removeCorner 12 = .ok (.aload_n 0, 1) := by decide +kernel
theorem dX0_removeCorner_13 : decode cX0_removeCorner 13 = .ok (.iload_n 2, 1) := by decide +kernel
theorem dX0_removeCorner_14 : decode cX0_removeCorner 14 = .ok (.iconst 1, 1) := by decide +kernel
theorem dX0_removeCorner_15 : decode cX0_removeCorner 15 = .ok (.isub, 1) := by decide +kernel
theorem dX0_removeCorner_16 : decode cX0_removeCorner 16 = .ok (.aload_n 0, 1) := by decide +kernel
theorem dX0_removeCorner_17 : decode cX0_removeCorner 17 = .ok (.getfield 9, 3) := by decide +kernel
theorem dX0_removeCorner_20 : decode cX0_removeCorner 20 = .ok (.iload_n 2, 1) := by decide +kernel
theorem dX0_removeCorner_21 : decode cX0_removeCorner 21 = .ok (.iaload, 1) := by decide +kernel
theorem dX0_removeCorner_22 : decode cX0_removeCorner 22 = .ok (.aload_n 0, 1) := by decide +kernel
theorem dX0_removeCorner_23 : decode cX0_removeCorner 23 = .ok (.getfield 15, 3) := by decide +kernel
theorem dX0_removeCorner_26 : decode cX0_removeCorner 26 = .ok (.iload_n 2, 1) := by decide +kernel
theorem dX0_removeCorner_27 : decode cX0_removeCorner 27 = .ok (.iaload, 1) := by decide +kernel
theorem dX0_removeCorner_28 : decode cX0_removeCorner 28 = .ok (.invokevirtual 49, 3) := by decide +kernel
theorem dX0_removeCorner_31 : decode cX0_removeCorner 31 = .ok (.iinc 2 1, 3) := by decide +kernel
theorem dX0_removeCorner_34 : decode cX0_removeCorner 34 = .ok (.goto (-30), 3) := by decide +kernel
theorem dX0_removeCorner_37 : decode cX0_removeCorner 37 = .ok (.aload_n 0, 1) := by decide +kernel
theorem dX0_removeCorner_38 : decode cX0_removeCorner 38 = .ok (.dup, 1) := by decide +kernel
theorem dX0_removeCorner_39 : decode cX0_removeCorner 39 = .ok (.getfield 18, 3) := by decide +kernel
theorem dX0_removeCorner_42 : decode cX0_removeCorner 42 = .ok (.iconst 1, 1) := by decide +kernel
theorem dX0_removeCorner_43 : decode cX0_removeCorner 43 = .ok (.isub, 1) := by decide +kernel
theorem dX0_removeCorner_44 : decode cX0_removeCorner 44 = .ok (.putfield 18, 3) := by decide +kernel
theorem dX0_removeCorner_47 : decode cX0_removeCorner 47 = .ok (.return_, 1) := by decide +kernel
theorem dX0_appendWheel_0 : decode cX0_appendWheel 0 = .ok (.aload_n 0, 1) := by decide +kernel
theorem dX0_appendWheel_1 : decode cX0_appendWheel 1 = .ok (.getfield 31, 3) := by decide +kernel
theorem dX0_appendWheel_4 : decode cX0_appendWheel 4 = .ok (.iconst 4, 1) := by decide +kernel
theorem dX0_appendWheel_5 : decode cX0_appendWheel 5 = .ok (.if_icmp .ge 43, 3) := by decide +kernel
theorem dX0_appendWheel_8 : decode cX0_appendWheel 8 = .ok (.aload_n 0, 1) := by decide +kernel
theorem dX0_appendWheel_9 : decode cX0_appendWheel 9 = .ok (.getfield 22, 3) := by decide +kernel
theorem dX0_appendWheel_12 : decode cX0_appendWheel 12 = .ok (.aload_n 0, 1) := by decide +kernel
theorem dX0_appendWheel_13 : decode cX0_appendWheel 13 = .ok (.getfield 31, 3) := by decide +kernel
theorem dX0_appendWheel_16 : decode cX0_appendWheel 16 = .ok (.iload_n 1, 1) := by decide +kernel
theorem dX0_appendWheel_17 : decode cX0_appendWheel 17 = .ok (.iastore, 1) := by decide +kernel
theorem dX0_appendWheel_18 : decode cX0_appendWheel 18 = .ok (.aload_n 0, 1) := by decide +kernel
theorem dX0_appendWheel_19 : decode cX0_appendWheel 19 = .ok (.getfield 25, 3) := by decide +kernel
theorem dX0_appendWheel_22 : decode cX0_appendWheel 22 = .ok (.aload_n 0, 1) := by decide +kernel
theorem dX0_appendWheel_23 : decode cX0_appendWheel 23 = .ok (.getfield 31, 3) := by decide +kernel
theorem dX0_appendWheel_26 : decode cX0_appendWheel 26 = .ok (.iload_n 2, 1) := by decide +kernel
theorem dX0_appendWheel_27 : decode cX0_appendWheel 27 = .ok (.iastore, 1) := by decide +kernel
theorem dX0_appendWheel_28 : decode cX0_appendWheel 28 = .ok (.aload_n 0, 1) := by decide +kernel
theorem dX0_appendWheel_29 : decode cX0_appendWheel 29 = .ok (.getfield 28, 3) := by decide +kernel
theorem dX0_appendWheel_32 : decode cX0_appendWheel 32 = .ok (.aload_n 0, 1) := by decide +kernel
theorem dX0_appendWheel_33 : decode cX0_appendWheel 33 = .ok (.getfield 31, 3) := by decide +kernel
theorem dX0_appendWheel_36 : decode cX0_appendWheel 36 = .ok (.iconst 0, 1) := by decide +kernel
theorem dX0_appendWheel_37 : decode cX0_appendWheel 37 = .ok (.iastore, 1) := by decide +kernel
theorem dX0_appendWheel_38 : decode cX0_appendWheel 38 = .ok (.aload_n 0, 1) := by decide +kernel
theorem dX0_appendWheel_39 : decode cX0_appendWheel 39 = .ok (.dup, 1) := by decide +kernel
theorem dX0_appendWheel_40 : decode cX0_appendWheel 40 = .ok (.getfield 31, 3) := by decide +kernel
theorem dX0_appendWheel_43 : decode cX0_appendWheel 43 = .ok (.iconst 1, 1) := by decide +kernel
theorem dX0_appendWheel_44 : decode cX0_appendWheel 44 = .ok (.iadd, 1) := by decide +kernel
theorem dX0_appendWheel_45 : decode cX0_appendWheel 45 = .ok (.putfield 31, 3) := by decide +kernel
theorem dX0_appendWheel_48 : decode cX0_appendWheel 48 = .ok (.return_, 1) := by decide +kernel
theorem dX0_movePole_0 : decode cX0_movePole 0 = .ok (.aload_n 0, 1) := by decide +kernel
theorem dX0_movePole_1 : decode cX0_movePole 1 = .ok (.iload_n 1, 1) := by decide +kernel
theorem dX0_movePole_2 : decode cX0_movePole 2 = .ok (.putfield 34, 3) := by decide +kernel
theorem dX0_movePole_5 : decode cX0_movePole 5 = .ok (.aload_n 0, 1) := by decide +kernel
theorem dX0_movePole_6 : decode cX0_movePole 6 = .ok (.iload_n 2, 1) := by decide +kernel
theorem dX0_movePole_7 : decode cX0_movePole 7 = .ok (.putfield 37, 3) := by decide +kernel
theorem dX0_movePole_10 : decode cX0_movePole 10 = .ok (.return_, 1) := by decide +kernel
theorem dX0_sweepOf_0 : decode cX0_sweepOf 0 = .ok (.iload_n 1, 1) := by decide +kernel
theorem dX0_sweepOf_1 : decode cX0_sweepOf 1 = .ok (.iconst 1, 1) := by decide +kernel
theorem dX0_sweepOf_2 : decode cX0_sweepOf 2 = .ok (.iadd, 1) := by decide +kernel
theorem dX0_sweepOf_3 : decode cX0_sweepOf 3 = .ok (.aload_n 0, 1) := by decide +kernel
theorem dX0_sweepOf_4 : decode cX0_sweepOf 4 = .ok (.getfield 18, 3) := by decide +kernel
theorem dX0_sweepOf_7 : decode cX0_sweepOf 7 = .ok (.if_icmp .ge 9, 3) := by decide +kernel
theorem dX0_sweepOf_10 : decode cX0_sweepOf 10 = .ok (.iload_n 1, 1) := by decide +kernel
theorem dX0_sweepOf_11 : decode cX0_sweepOf 11 = .ok (.iconst 1, 1) := by decide +kernel
theorem dX0_sweepOf_12 : decode cX0_sweepOf 12 = .ok (.iadd, 1) := by decide +kernel
theorem dX0_sweepOf_13 : decode cX0_sweepOf 13 = .ok (.goto 4, 3) := by decide +kernel
theorem dX0_sweepOf_16 : decode cX0_sweepOf 16 = .ok (.iconst 0, 1) := by decide +kernel
theorem dX0_sweepOf_17 : decode cX0_sweepOf 17 = .ok (.istore_n 2, 1) := by decide +kernel
theorem dX0_sweepOf_18 : decode cX0_sweepOf 18 = .ok (.aload_n 0, 1) := by decide +kernel
theorem dX0_sweepOf_19 : decode cX0_sweepOf 19 = .ok (.getfield 9, 3) := by decide +kernel
theorem dX0_sweepOf_22 : decode cX0_sweepOf 22 = .ok (.iload_n 1, 1) := by decide +kernel
theorem dX0_sweepOf_23 : decode cX0_sweepOf 23 = .ok (.iaload, 1) := by decide +kernel
theorem dX0_sweepOf_24 : decode cX0_sweepOf 24 = .ok (.aload_n 0, 1) := by decide +kernel
theorem dX0_sweepOf_25 : decode cX0_sweepOf 25 = .ok (.getfield 34, 3) := by decide +kernel
theorem dX0_sweepOf_28 : decode cX0_sweepOf 28 = .ok (.isub, 1) := by decide +kernel
theorem dX0_sweepOf_29 : decode cX0_sweepOf 29 = .ok (.istore_n 3, 1) := by decide +kernel
theorem dX0_sweepOf_30 : decode cX0_sweepOf 30 = .ok (.aload_n 0, 1) := by decide +kernel
theorem dX0_sweepOf_31 : decode cX0_sweepOf 31 = .ok (.getfield 15, 3) := by decide +kernel
theorem dX0_sweepOf_34 : decode cX0_sweepOf 34 = .ok (.iload_n 1, 1) := by decide +kernel
theorem dX0_sweepOf_35 : decode cX0_sweepOf 35 = .ok (.iaload, 1) := by decide +kernel
theorem dX0_sweepOf_36 : decode cX0_sweepOf 36 = .ok (.aload_n 0, 1) := by decide +kernel
theorem dX0_sweepOf_37 : decode cX0_sweepOf 37 = .ok (.getfield 37, 3) := by decide +kernel
theorem dX0_sweepOf_40 : decode cX0_sweepOf 40 = .ok (.isub, 1) := by decide +kernel
theorem dX0_sweepOf_41 : decode cX0_sweepOf 41 = .ok (.istore 4, 2) := by decide +kernel
theorem dX0_sweepOf_43 : decode cX0_sweepOf 43 = .ok (.aload_n 0, 1) := by decide +kernel
theorem dX0_sweepOf_44 : decode cX0_sweepOf 44 = .ok (.getfield 9, 3) := by decide +kernel
theorem dX0_sweepOf_47 : decode cX0_sweepOf 47 = .ok (.iload_n 2, 1) := by decide +kernel
theorem dX0_sweepOf_48 : decode cX0_sweepOf 48 = .ok (.iaload, 1) := by decide +kernel
theorem dX0_sweepOf_49 : decode cX0_sweepOf 49 = .ok (.aload_n 0, 1) := by decide +kernel
theorem dX0_sweepOf_50 : decode cX0_sweepOf 50 = .ok (.getfield 34, 3) := by decide +kernel
theorem dX0_sweepOf_53 : decode cX0_sweepOf 53 = .ok (.isub, 1) := by decide +kernel
theorem dX0_sweepOf_54 : decode cX0_sweepOf 54 = .ok (.istore 5, 2) := by decide +kernel
theorem dX0_sweepOf_56 : decode cX0_sweepOf 56 = .ok (.aload_n 0, 1) := by decide +kernel
theorem dX0_sweepOf_57 : decode cX0_sweepOf 57 = .ok (.getfield 15, 3) := by decide +kernel
theorem dX0_sweepOf_60 : decode cX0_sweepOf 60 = .ok (.iload_n 2, 1) := by decide +kernel
theorem dX0_sweepOf_61 : decode cX0_sweepOf 61 = .ok (.iaload, 1) := by decide +kernel
theorem dX0_sweepOf_62 : decode cX0_sweepOf 62 = .ok (.aload_n 0, 1) := by decide +kernel
theorem dX0_sweepOf_63 : decode cX0_sweepOf 63 = .ok (.getfield 37, 3) := by decide +kernel
theorem dX0_sweepOf_66 : decode cX0_sweepOf 66 = .ok (.isub, 1) := by decide +kernel
theorem dX0_sweepOf_67 : decode cX0_sweepOf 67 = .ok (.istore 6, 2) := by decide +kernel
theorem dX0_sweepOf_69 : decode cX0_sweepOf 69 = .ok (.iload_n 3, 1) := by decide +kernel
theorem dX0_sweepOf_70 : decode cX0_sweepOf 70 = .ok (.iload 6, 2) := by decide +kernel
theorem dX0_sweepOf_72 : decode cX0_sweepOf 72 = .ok (.imul, 1) := by decide +kernel
theorem dX0_sweepOf_73 : decode cX0_sweepOf 73 = .ok (.iload 5, 2) := by decide +kernel
theorem dX0_sweepOf_75 : decode cX0_sweepOf 75 = .ok (.iload 4, 2) := by decide +kernel
theorem dX0_sweepOf_77 : decode cX0_sweepOf 77 = .ok (.imul, 1) := by decide +kernel
theorem dX0_sweepOf_78 : decode cX0_sweepOf 78 = .ok (.isub, 1) := by decide +kernel
theorem dX0_sweepOf_79 : decode cX0_sweepOf 79 = .ok (.ireturn, 1) := by decide +kernel
set_option maxRecDepth 20000 in
theorem ggX0_area_X0_sweepOf : GoodIn wsX0_area wsX0_sweepOf := goodIn_r _ [6, 1, 7, 8, 9, 10, 11, 12, 13, 14, 15, 16, 17, 18, 19, 20] (by decide +kernel) (by decide +kernel)
set_option maxRecDepth 20000 in
theorem gX0_area_X0_sweepOf : GoodIn wsX0_area (wsV RX0 53 RX0 yX0_sweepOf wsX0_sweepOf) := goodIn_app (goodIn_of _ (by decide +kernel)) ggX0_area_X0_sweepOf
theorem dX0_area_0 : decode cX0_area 0 = .ok (.iconst 0, 1) := by decide +kernel
theorem dX0_area_1 : decode cX0_area 1 = .ok (.istore_n 1, 1) := by decide +kernel
theorem dX0_area_2 : decode cX0_area 2 = .ok (.iconst 0, 1) := by decide +kernel
theorem dX0_area_3 : decode cX0_area 3 = .ok (.istore_n 2, 1) := by decide +kernel
theorem dX0_area_4 : decode cX0_area 4 = .ok (.iload_n 2, 1) := by decide +kernel
theorem dX0_area_5 : decode cX0_area 5 = .ok (.aload_n 0, 1) := by decide +kernel
theorem dX0_area_6 : decode cX0_area 6 = .ok (.getfield 18, 3) := by decide +kernel
theorem dX0_area_9 : decode cX0_area 9 = .ok (.if_icmp .ge 17, 3) := by decide +kernel
theorem dX0_area_12 : decode cX0_area 12 = .ok (.iload_n 1, 1) := by decide +kernel
theorem dX0_area_13 : decode cX0_area 13 = .ok (.aload_n 0, 1) := by decide +kernel
theorem dX0_area_14 : decode cX0_area 14 = .ok (.iload_n 2, 1) := by decide +kernel
theorem dX0_area_15 : decode cX0_area 15 = .ok (.invokevirtual 53, 3) := by decide +kernel
theorem dX0_area_18 : decode cX0_area 18 = .ok (.iadd, 1) := by decide +kernel
theorem dX0_area_19 : decode cX0_area 19 = .ok (.istore_n 1, 1) := by decide +kernel
theorem dX0_area_20 : decode cX0_area 20 = .ok (.iinc 2 1, 3) := by decide +kernel
theorem dX0_area_23 : decode cX0_area 23 = .ok (.goto (-19), 3) := by decide +kernel
theorem dX0_area_26 : decode cX0_area 26 = .ok (.iload_n 1, 1) := by decide +kernel
theorem dX0_area_27 : decode cX0_area 27 = .ok (.ireturn, 1) := by decide +kernel
set_option maxRecDepth 20000 in
theorem ggX0_areaUnsigned_X0_area : GoodIn wsX0_areaUnsigned wsX0_area := goodIn_r _ [9, 10, 11, 12, 13, 8, 14, 15, 16, 17, 18, 19, 20, 21, 22, 23, 24, 25, 26, 27, 28] (by decide +kernel) (by decide +kernel)
set_option maxRecDepth 20000 in
theorem gX0_areaUnsigned_X0_area : GoodIn wsX0_areaUnsigned (wsV RX0 57 RX0 yX0_area wsX0_area) := goodIn_app (goodIn_of _ (by decide +kernel)) ggX0_areaUnsigned_X0_area
theorem dX0_areaUnsigned_0 : decode cX0_areaUnsigned 0 = .ok (.aload_n 0, 1) := by decide +kernel
theorem dX0_areaUnsigned_1 : decode cX0_areaUnsigned 1 = .ok (.invokevirtual 57, 3) := by decide +kernel
theorem dX0_areaUnsigned_4 : decode cX0_areaUnsigned 4 = .ok (.invokestatic 61, 3) := by decide +kernel
theorem dX0_areaUnsigned_7 : decode cX0_areaUnsigned 7 = .ok (.ireturn, 1) := by decide +kernel
theorem dX0_edgeAhead_0 : decode cX0_edgeAhead 0 = .ok (.aload_n 0, 1) := by decide +kernel
theorem dX0_edgeAhead_1 : decode cX0_edgeAhead 1 = .ok (.getfield 18, 3) := by decide +kernel
theorem dX0_edgeAhead_4 : decode cX0_edgeAhead 4 = .ok (.ifCond .ne 8, 3) := by decide +kernel
theorem dX0_edgeAhead_7 : decode cX0_edgeAhead 7 = .ok (.bipush (-4), 2) := by decide +kernel
theorem dX0_edgeAhead_9 : decode cX0_edgeAhead 9 = .ok (.goto 14, 3) := by decide +kernel
theorem dX0_edgeAhead_12 : decode cX0_edgeAhead 12 = .ok (.aload_n 0, 1) := by decide +kernel
theorem dX0_edgeAhead_13 : decode cX0_edgeAhead 13 = .ok (.getfield 40, 3) := by decide +kernel
theorem dX0_edgeAhead_16 : decode cX0_edgeAhead 16 = .ok (.iload_n 1, 1) := by decide +kernel
theorem dX0_edgeAhead_17 : decode cX0_edgeAhead 17 = .ok (.iadd, 1) := by decide +kernel
theorem dX0_edgeAhead_18 : decode cX0_edgeAhead 18 = .ok (.aload_n 0, 1) := by decide +kernel
theorem dX0_edgeAhead_19 : decode cX0_edgeAhead 19 = .ok (.getfield 18, 3) := by decide +kernel
theorem dX0_edgeAhead_22 : decode cX0_edgeAhead 22 = .ok (.irem, 1) := by decide +kernel
theorem dX0_edgeAhead_23 : decode cX0_edgeAhead 23 = .ok (.ireturn, 1) := by decide +kernel
set_option maxRecDepth 20000 in
theorem ggX0_sweepAhead_X0_edgeAhead : GoodIn wsX0_sweepAhead wsX0_edgeAhead := goodIn_r _ [5, 6, 7, 16, 17, 18, 19, 20, 21, 22, 23, 24, 25] (by decide +kernel) (by decide +kernel)
set_option maxRecDepth 20000 in
theorem gX0_sweepAhead_X0_edgeAhead : GoodIn wsX0_sweepAhead (wsV RX0 66 RX0 yX0_edgeAhead wsX0_edgeAhead) := goodIn_app (goodIn_of _ (by decide +kernel)) ggX0_sweepAhead_X0_edgeAhead
set_option maxRecDepth 20000 in
theorem ggX0_sweepAhead_X0_sweepOf : GoodIn wsX0_sweepAhead wsX0_sweepOf := goodIn_r _ [11, 6, 12, 13, 14, 15, 16, 17, 18, 19, 20, 21, 22, 23, 24, 25] (by decide +kernel) (by decide +kernel)
set_option maxRecDepth 20000 in
theorem gX0_sweepAhead_X0_sweepOf : GoodIn wsX0_sweepAhead (wsV RX0 53 RX0 yX0_sweepOf wsX0_sweepOf) := goodIn_app (goodIn_of _ (by decide +kernel)) ggX0_sweepAhead_X0_sweepOf
theorem dX0_sweepAhead_0 : decode cX0_sweepAhead 0 = .ok (.aload_n 0, 1) := by decide +kernel
theorem dX0_sweepAhead_1 : decode cX0_sweepAhead 1 = .ok (.iload_n 1, 1) := by decide +kernel
theorem dX0_sweepAhead_2 : decode cX0_sweepAhead 2 = .ok (.invokevirtual 66, 3) := by decide +kernel
theorem dX0_sweepAhead_5 : decode cX0_sweepAhead 5 = .ok (.istore_n 2, 1) := by decide +kernel
theorem dX0_sweepAhead_6 : decode cX0_sweepAhead 6 = .ok (.iload_n 2, 1) := by decide +kernel
theorem dX0_sweepAhead_7 : decode cX0_sweepAhead 7 = .ok (.bipush (-4), 2) := by decide +kernel
theorem dX0_sweepAhead_9 : decode cX0_sweepAhead 9 = .ok (.if_icmp .ne 7, 3) := by decide +kernel
theorem dX0_sweepAhead_12 : decode cX0_sweepAhead 12 = .ok (.iconst 0, 1) := by decide +kernel
theorem dX0_sweepAhead_13 : decode cX0_sweepAhead 13 = .ok (.goto 8, 3) := by decide +kernel
theorem dX0_sweepAhead_16 : decode cX0_sweepAhead 16 = .ok (.aload_n 0, 1) := by decide +kernel
theorem dX0_sweepAhead_17 : decode cX0_sweepAhead 17 = .ok (.iload_n 2, 1) := by decide +kernel
theorem dX0_sweepAhead_18 : decode cX0_sweepAhead 18 = .ok (.invokevirtual 53, 3) := by decide +kernel
theorem dX0_sweepAhead_21 : decode cX0_sweepAhead 21 = .ok (.ireturn, 1) := by decide +kernel
theorem dX0_roll_0 : decode cX0_roll 0 = .ok (.iload_n 0, 1) := by decide +kernel
theorem dX0_roll_1 : decode cX0_roll 1 = .ok (.tableswitch 67 1 3 #[27, 42, 56], 27) := by decide +kernel
theorem dX0_roll_28 : decode cX0_roll 28 = .ok (.iload_n 1, 1) := by decide +kernel
theorem dX0_roll_29 : decode cX0_roll 29 = .ok (.iconst 1, 1) := by decide +kernel
theorem dX0_roll_30 : decode cX0_roll 30 = .ok (.if_icmp .ge 7, 3) := by decide +kernel
theorem dX0_roll_33 : decode cX0_roll 33 = .ok (.iconst 0, 1) := by decide +kernel
theorem dX0_roll_34 : decode cX0_roll 34 = .ok (.goto 8, 3) := by decide +kernel
theorem dX0_roll_37 : decode cX0_roll 37 = .ok (.iload_n 2, 1) := by decide +kernel
theorem dX0_roll_38 : decode cX0_roll 38 = .ok (.iload_n 1, 1) := by decide +kernel
theorem dX0_roll_39 : decode cX0_roll 39 = .ok (.idiv, 1) := by decide +kernel
theorem dX0_roll_40 : decode cX0_roll 40 = .ok (.iload_n 1, 1) := by decide +kernel
theorem dX0_roll_41 : decode cX0_roll 41 = .ok (.imul, 1) := by decide +kernel
theorem dX0_roll_42 : decode cX0_roll 42 = .ok (.ireturn, 1) := by decide +kernel
theorem dX0_roll_43 : decode cX0_roll 43 = .ok (.iload_n 2, 1) := by decide +kernel
theorem dX0_roll_44 : decode cX0_roll 44 = .ok (.invokestatic 61, 3) := by decide +kernel
theorem dX0_roll_47 : decode cX0_roll 47 = .ok (.iload_n 1, 1) := by decide +kernel
theorem dX0_roll_48 : decode cX0_roll 48 = .ok (.if_icmp .ge 7, 3) := by decide +kernel
theorem dX0_roll_51 : decode cX0_roll 51 = .ok (.iconst 0, 1) := by decide +kernel
theorem dX0_roll_52 : decode cX0_roll 52 = .ok (.goto 4, 3) := by decide +kernel
theorem dX0_roll_55 : decode cX0_roll 55 = .ok (.iload_n 2, 1) := by decide +kernel
theorem dX0_roll_56 : decode cX0_roll 56 = .ok (.ireturn, 1) := by decide +kernel
theorem dX0_roll_57 : decode cX0_roll 57 = .ok (.iload_n 2, 1) := by decide +kernel
theorem dX0_roll_58 : decode cX0_roll 58 = .ok (.iload_n 1, 1) := by decide +kernel
theorem dX0_roll_59 : decode cX0_roll 59 = .ok (.if_icmp .ge 7, 3) := by decide +kernel
theorem dX0_roll_62 : decode cX0_roll 62 = .ok (.iconst 0, 1) := by decide +kernel
theorem dX0_roll_63 : decode cX0_roll 63 = .ok (.goto 4, 3) := by decide +kernel
theorem dX0_roll_66 : decode cX0_roll 66 = .ok (.iload_n 2, 1) := by decide +kernel
theorem dX0_roll_67 : decode cX0_roll 67 = .ok (.ireturn, 1) := by decide +kernel
theorem dX0_roll_68 : decode cX0_roll 68 = .ok (.iload_n 2, 1) := by decide +kernel
theorem dX0_roll_69 : decode cX0_roll 69 = .ok (.ireturn, 1) := by decide +kernel
set_option maxRecDepth 20000 in
theorem ggX0_rollOf_X0_roll : GoodIn wsX0_rollOf wsX0_roll := goodIn_r _ [6, 7, 8, 9, 10] (by decide +kernel) (by decide +kernel)
set_option maxRecDepth 20000 in
theorem gX0_rollOf_X0_roll : GoodIn wsX0_rollOf (va_wsS RX0 69 yX0_roll wsX0_roll) := goodIn_app (goodIn_of _ (by decide +kernel)) ggX0_rollOf_X0_roll
theorem dX0_rollOf_0 : decode cX0_rollOf 0 = .ok (.aload_n 0, 1) := by decide +kernel
theorem dX0_rollOf_1 : decode cX0_rollOf 1 = .ok (.getfield 22, 3) := by decide +kernel
theorem dX0_rollOf_4 : decode cX0_rollOf 4 = .ok (.iload_n 1, 1) := by decide +kernel
theorem dX0_rollOf_5 : decode cX0_rollOf 5 = .ok (.iaload, 1) := by decide +kernel
theorem dX0_rollOf_6 : decode cX0_rollOf 6 = .ok (.aload_n 0, 1) := by decide +kernel
theorem dX0_rollOf_7 : decode cX0_rollOf 7 = .ok (.getfield 25, 3) := by decide +kernel
theorem dX0_rollOf_10 : decode cX0_rollOf 10 = .ok (.iload_n 1, 1) := by decide +kernel
theorem dX0_rollOf_11 : decode cX0_rollOf 11 = .ok (.iaload, 1) := by decide +kernel
theorem dX0_rollOf_12 : decode cX0_rollOf 12 = .ok (.iload_n 2, 1) := by decide +kernel
theorem dX0_rollOf_13 : decode cX0_rollOf 13 = .ok (.invokestatic 69, 3) := by decide +kernel
theorem dX0_rollOf_16 : decode cX0_rollOf 16 = .ok (.ireturn, 1) := by decide +kernel
set_option maxRecDepth 20000 in
theorem ggX0_rolledByAll_X0_rollOf : GoodIn wsX0_rolledByAll wsX0_rollOf := goodIn_r _ [10, 11, 12, 13, 14, 9, 15, 2, 3, 4, 5, 16, 17, 18, 19, 20, 21, 22, 23, 24, 25] (by decide +kernel) (by decide +kernel)
set_option maxRecDepth 20000 in
theorem gX0_rolledByAll_X0_rollOf : GoodIn wsX0_rolledByAll (wsV RX0 73 RX0 yX0_rollOf wsX0_rollOf) := goodIn_app (goodIn_of _ (by decide +kernel)) ggX0_rolledByAll_X0_rollOf
theorem dX0_rolledByAll_0 : decode cX0_rolledByAll 0 = .ok (.iconst 0, 1) := by decide +kernel
theorem dX0_rolledByAll_1 : decode cX0_rolledByAll 1 = .ok (.istore_n 2, 1) := by decide +kernel
theorem dX0_rolledByAll_2 : decode cX0_rolledByAll 2 = .ok (.iconst 0, 1) := by decide +kernel
theorem dX0_rolledByAll_3 : decode cX0_rolledByAll 3 = .ok (.istore_n 3, 1) := by decide +kernel
theorem dX0_rolledByAll_4 : decode cX0_rolledByAll 4 = .ok (.iload_n 3, 1) := by decide +kernel
theorem dX0_rolledByAll_5 : decode cX0_rolledByAll 5 = .ok (.aload_n 0, 1) := by decide +kernel
theorem dX0_rolledByAll_6 : decode cX0_rolledByAll 6 = .ok (.getfield 31, 3) := by decide +kernel
theorem dX0_rolledByAll_9 : decode cX0_rolledByAll 9 = .ok (.if_icmp .ge 21, 3) := by decide +kernel
theorem dX0_rolledByAll_12 : decode cX0_rolledByAll 12 = .ok (.iload_n 2, 1) := by decide +kernel
theorem dX0_rolledByAll_13 : decode cX0_rolledByAll 13 = .ok (.aload_n 0, 1) := by decide +kernel
theorem dX0_rolledByAll_14 : decode cX0_rolledByAll 14 = .ok (.iload_n 3, 1) := by decide +kernel
theorem dX0_rolledByAll_15 : decode cX0_rolledByAll 15 = .ok (.iload_n 1, 1) := by decide +kernel
theorem dX0_rolledByAll_16 : decode cX0_rolledByAll 16 = .ok (.invokevirtual 73, 3) := by decide +kernel
theorem dX0_rolledByAll_19 : decode cX0_rolledByAll 19 = .ok (.invokestatic 61, 3) := by decide +kernel
theorem dX0_rolledByAll_22 : decode cX0_rolledByAll 22 = .ok (.iadd, 1) := by decide +kernel
theorem dX0_rolledByAll_23 : decode cX0_rolledByAll 23 = .ok (.istore_n 2, 1) := by decide +kernel
theorem dX0_rolledByAll_24 : decode cX0_rolledByAll 24 = .ok (.iinc 3 1, 3) := by decide +kernel
theorem dX0_rolledByAll_27 : decode cX0_rolledByAll 27 = .ok (.goto (-23), 3) := by decide +kernel
theorem dX0_rolledByAll_30 : decode cX0_rolledByAll 30 = .ok (.iload_n 2, 1) := by decide +kernel
theorem dX0_rolledByAll_31 : decode cX0_rolledByAll 31 = .ok (.ireturn, 1) := by decide +kernel
set_option maxRecDepth 20000 in
theorem ggX0_rollAll_X0_rollOf : GoodIn wsX0_rollAll wsX0_rollOf := goodIn_r _ [7, 8, 9, 10, 11, 6, 12, 13, 14, 15, 16, 21, 22, 23, 24, 25, 26, 27, 28, 29, 30] (by decide +kernel) (by decide +kernel)
set_option maxRecDepth 20000 in
theorem gX0_rollAll_X0_rollOf : GoodIn wsX0_rollAll (wsV RX0 73 RX0 yX0_rollOf wsX0_rollOf) := goodIn_app (goodIn_of _ (by decide +kernel)) ggX0_rollAll_X0_rollOf
set_option maxRecDepth 20000 in
theorem ggX0_rollAll_X0_rolledByAll : GoodIn wsX0_rollAll wsX0_rolledByAll := goodIn_r _ [20, 1, 13, 14, 15, 16, 3, 4, 5, 6, 7, 8, 9, 10, 11, 12, 21, 22, 23, 24, 25, 26, 27, 28, 29, 30] (by decide +kernel) (by decide +kernel)
set_option maxRecDepth 20000 in
theorem gX0_rollAll_X0_rolledByAll : GoodIn wsX0_rollAll (wsV RX0 77 RX0 yX0_rolledByAll wsX0_rolledByAll) := goodIn_app (goodIn_of _ (by decide +kernel)) ggX0_rollAll_X0_rolledByAll
theorem dX0_rollAll_0 : decode cX0_rollAll 0 = .ok (.iconst 0, 1) := by decide +kernel
theorem dX0_rollAll_1 : decode cX0_rollAll 1 = .ok (.istore_n 2, 1) := by decide +kernel
theorem dX0_rollAll_2 : decode cX0_rollAll 2 = .ok (.iload_n 2, 1) := by decide +kernel
theorem dX0_rollAll_3 : decode cX0_rollAll 3 = .ok (.aload_n 0, 1) := by decide +kernel
theorem dX0_rollAll_4 : decode cX0_rollAll 4 = .ok (.getfield 31, 3) := by decide +kernel
theorem dX0_rollAll_7 : decode cX0_rollAll 7 = .ok (.if_icmp .ge 24, 3) := by decide +kernel
theorem dX0_rollAll_10 : decode cX0_rollAll 10 = .ok (.aload_n 0, 1) := by decide +kernel
theorem dX0_rollAll_11 : decode cX0_rollAll 11 = .ok (.getfield 28, 3) := by decide +kernel
theorem dX0_rollAll_14 : decode cX0_rollAll 14 = .ok (.iload_n 2, 1) := by decide +kernel
theorem dX0_rollAll_15 : decode cX0_rollAll 15 = .ok (.dup2, 1) := by decide +kernel
theorem dX0_rollAll_16 : decode cX0_rollAll 16 = .ok (.iaload, 1) := by decide +kernel
theorem dX0_rollAll_17 : decode cX0_rollAll 17 = .ok (.aload_n 0, 1) := by decide +kernel
theorem dX0_rollAll_18 : decode cX0_rollAll 18 = .ok (.iload_n 2, 1) := by decide +kernel
theorem dX0_rollAll_19 : decode cX0_rollAll 19 = .ok (.iload_n 1, 1) := by decide +kernel
theorem dX0_rollAll_20 : decode cX0_rollAll 20 = .ok (.invokevirtual 73, 3) := by decide +kernel
theorem dX0_rollAll_23 : decode cX0_rollAll 23 = .ok (.iadd, 1) := by decide +kernel
theorem dX0_rollAll_24 : decode cX0_rollAll 24 = .ok (.iastore, 1) := by decide +kernel
theorem dX0_rollAll_25 : decode cX0_rollAll 25 = .ok (.iinc 2 1, 3) := by decide +kernel
theorem dX0_rollAll_28 : decode cX0_rollAll 28 = .ok (.goto (-26), 3) := by decide +kernel
theorem dX0_rollAll_31 : decode cX0_rollAll 31 = .ok (.aload_n 0, 1) := by decide +kernel
theorem dX0_rollAll_32 : decode cX0_rollAll 32 = .ok (.iload_n 1, 1) := by decide +kernel
theorem dX0_rollAll_33 : decode cX0_rollAll 33 = .ok (.invokevirtual 77, 3) := by decide +kernel
theorem dX0_rollAll_36 : decode cX0_rollAll 36 = .ok (.ireturn, 1) := by decide +kernel
set_option maxRecDepth 20000 in
theorem ggX0_someWheelRests_X0_rollOf : GoodIn wsX0_someWheelRests wsX0_rollOf := goodIn_r _ [6, 7, 8, 9, 10, 5, 11, 12, 13, 14, 15, 16, 17, 18, 19, 20, 21, 22, 23, 24, 25] (by decide +kernel) (by decide +kernel)
set_option maxRecDepth 20000 in
theorem gX0_someWheelRests_X0_rollOf : GoodIn wsX0_someWheelRests (wsV RX0 73 RX0 yX0_rollOf wsX0_rollOf) := goodIn_app (goodIn_of _ (by decide +kernel)) ggX0_someWheelRests_X0_rollOf
theorem dX0_someWheelRests_0 : decode cX0_someWheelRests 0 = .ok (.iconst 0, 1) := by decide +kernel
theorem dX0_someWheelRests_1 : decode cX0_someWheelRests 1 = .ok (.istore_n 2, 1) := by decide +kernel
theorem dX0_someWheelRests_2 : decode cX0_someWheelRests 2 = .ok (.iload_n 2, 1) := by decide +kernel
theorem dX0_someWheelRests_3 : decode cX0_someWheelRests 3 = .ok (.aload_n 0, 1) := by decide +kernel
theorem dX0_someWheelRests_4 : decode cX0_someWheelRests 4 = .ok (.getfield 31, 3) := by decide +kernel
theorem dX0_someWheelRests_7 : decode cX0_someWheelRests 7 = .ok (.if_icmp .ge 20, 3) := by decide +kernel
theorem dX0_someWheelRests_10 : decode cX0_someWheelRests 10 = .ok (.aload_n 0, 1) := by decide +kernel
theorem dX0_someWheelRests_11 : decode cX0_someWheelRests 11 = .ok (.iload_n 2, 1) := by decide +kernel
theorem dX0_someWheelRests_12 : decode cX0_someWheelRests 12 = .ok (.iload_n 1, 1) := by decide +kernel
theorem dX0_someWheelRests_13 : decode cX0_someWheelRests 13 = .ok (.invokevirtual 73, 3) := by decide +kernel
theorem dX0_someWheelRests_16 : decode cX0_someWheelRests 16 = .ok (.ifCond .ne 5, 3) := by decide +kernel
theorem dX0_someWheelRests_19 : decode cX0_someWheelRests 19 = .ok (.iconst 1, 1) := by decide +kernel
theorem dX0_someWheelRests_20 : decode cX0_someWheelRests 20 = .ok (.ireturn, 1) := by decide +kernel
theorem dX0_someWheelRests_21 : decode cX0_someWheelRests 21 = .ok (.iinc 2 1, 3) := by decide +kernel
theorem dX0_someWheelRests_24 : decode cX0_someWheelRests 24 = .ok (.goto (-22), 3) := by decide +kernel
theorem dX0_someWheelRests_27 : decode cX0_someWheelRests 27 = .ok (.iconst 0, 1) := by decide +kernel
theorem dX0_someWheelRests_28 : decode cX0_someWheelRests 28 = .ok (.ireturn, 1) := by decide +kernel
set_option maxRecDepth 20000 in
theorem ggX0_readsAhead_X0_sweepAhead : GoodIn wsX0_readsAhead wsX0_sweepAhead := goodIn_r _ [6, 7, 8, 9, 5, 10, 11, 12, 13, 14, 15, 16, 17, 18, 19, 20, 34, 35, 36, 37, 38, 39, 40, 41, 42, 43] (by decide +kernel) (by decide +kernel)
set_option maxRecDepth 20000 in
theorem gX0_readsAhead_X0_sweepAhead : GoodIn wsX0_readsAhead (wsV RX0 80 RX0 yX0_sweepAhead wsX0_sweepAhead) := goodIn_app (goodIn_of _ (by decide +kernel)) ggX0_readsAhead_X0_sweepAhead
set_option maxRecDepth 20000 in
theorem ggX0_readsAhead_X0_rollOf : GoodIn wsX0_readsAhead wsX0_rollOf := goodIn_r _ [24, 25, 26, 27, 28, 5, 29, 30, 31, 32, 33, 34, 35, 36, 37, 38, 39, 40, 41, 42, 43] (by decide +kernel) (by decide +kernel)
set_option maxRecDepth 20000 in
theorem gX0_readsAhead_X0_rollOf : GoodIn wsX0_readsAhead (wsV RX0 73 RX0 yX0_rollOf wsX0_rollOf) := goodIn_app (goodIn_of _ (by decide +kernel)) ggX0_readsAhead_X0_rollOf
theorem dX0_readsAhead_0 : decode cX0_readsAhead 0 = .ok (.aload_n 0, 1) := by decide +kernel
theorem dX0_readsAhead_1 : decode cX0_readsAhead 1 = .ok (.getfield 28, 3) := by decide +kernel
theorem dX0_readsAhead_4 : decode cX0_readsAhead 4 = .ok (.iload_n 1, 1) := by decide +kernel
theorem dX0_readsAhead_5 : decode cX0_readsAhead 5 = .ok (.iaload, 1) := by decide +kernel
theorem dX0_readsAhead_6 : decode cX0_readsAhead 6 = .ok (.istore_n 3, 1) := by decide +kernel
theorem dX0_readsAhead_7 : decode cX0_readsAhead 7 = .ok (.iconst 0, 1) := by decide +kernel
theorem dX0_readsAhead_8 : decode cX0_readsAhead 8 = .ok (.istore 4, 2) := by decide +kernel
theorem dX0_readsAhead_10 : decode cX0_readsAhead 10 = .ok (.iload 4, 2) := by decide +kernel
theorem dX0_readsAhead_12 : decode cX0_readsAhead 12 = .ok (.iload_n 2, 1) := by decide +kernel
theorem dX0_readsAhead_13 : decode cX0_readsAhead 13 = .ok (.if_icmp .ge 23, 3) := by decide +kernel
theorem dX0_readsAhead_16 : decode cX0_readsAhead 16 = .ok (.iload_n 3, 1) := by decide +kernel
theorem dX0_readsAhead_17 : decode cX0_readsAhead 17 = .ok (.aload_n 0, 1) := by decide +kernel
theorem dX0_readsAhead_18 : decode cX0_readsAhead 18 = .ok (.iload_n 1, 1) := by decide +kernel
theorem dX0_readsAhead_19 : decode cX0_readsAhead 19 = .ok (.aload_n 0, 1) := by decide +kernel
theorem dX0_readsAhead_20 : decode cX0_readsAhead 20 = .ok (.iload 4, 2) := by decide +kernel
theorem dX0_readsAhead_22 : decode cX0_readsAhead 22 = .ok (.invokevirtual 80, 3) := by decide +kernel
theorem dX0_readsAhead_25 : decode cX0_readsAhead 25 = .ok (.invokevirtual 73, 3) := by decide +kernel
theorem dX0_readsAhead_28 : decode cX0_readsAhead 28 = .ok (.iadd, 1) := by decide +kernel
theorem dX0_readsAhead_29 : decode cX0_readsAhead 29 = .ok (.istore_n 3, 1) := by decide +kernel
theorem dX0_readsAhead_30 : decode cX0_readsAhead 30 = .ok (.iinc 4 1, 3) := by decide +kernel
theorem dX0_readsAhead_33 : decode cX0_readsAhead 33 = .ok (.goto (-23), 3) := by decide +kernel
theorem dX0_readsAhead_36 : decode cX0_readsAhead 36 = .ok (.iload_n 3, 1) := by decide +kernel
theorem dX0_readsAhead_37 : decode cX0_readsAhead 37 = .ok (.ireturn, 1) := by decide +kernel
theorem dX0_shownBy_0 : decode cX0_shownBy 0 = .ok (.aload_n 0, 1) := by decide +kernel
theorem dX0_shownBy_1 : decode cX0_shownBy 1 = .ok (.getfield 28, 3) := by decide +kernel
theorem dX0_shownBy_4 : decode cX0_shownBy 4 = .ok (.iload_n 1, 1) := by decide +kernel
theorem dX0_shownBy_5 : decode cX0_shownBy 5 = .ok (.iaload, 1) := by decide +kernel
theorem dX0_shownBy_6 : decode cX0_shownBy 6 = .ok (.istore_n 2, 1) := by decide +kernel
theorem dX0_shownBy_7 : decode cX0_shownBy 7 = .ok (.aload_n 0, 1) := by decide +kernel
theorem dX0_shownBy_8 : decode cX0_shownBy 8 = .ok (.getfield 25, 3) := by decide +kernel
theorem dX0_shownBy_11 : decode cX0_shownBy 11 = .ok (.iload_n 1, 1) := by decide +kernel
theorem dX0_shownBy_12 : decode cX0_shownBy 12 = .ok (.iaload, 1) := by decide +kernel
theorem dX0_shownBy_13 : decode cX0_shownBy 13 = .ok (.istore_n 3, 1) := by decide +kernel
theorem dX0_shownBy_14 : decode cX0_shownBy 14 = .ok (.aload_n 0, 1) := by decide +kernel
theorem dX0_shownBy_15 : decode cX0_shownBy 15 = .ok (.getfield 22, 3) := by decide +kernel
theorem dX0_shownBy_18 : decode cX0_shownBy 18 = .ok (.iload_n 1, 1) := by decide +kernel
theorem dX0_shownBy_19 : decode cX0_shownBy 19 = .ok (.iaload, 1) := by decide +kernel
theorem dX0_shownBy_20 : decode cX0_shownBy 20 = .ok (.lookupswitch 45 #[(1, 28), (3, 41)], 28) := by decide +kernel
theorem dX0_shownBy_48 : decode cX0_shownBy 48 = .ok (.iload_n 3, 1) := by decide +kernel
theorem dX0_shownBy_49 : decode cX0_shownBy 49 = .ok (.iconst 1, 1) := by decide +kernel
theorem dX0_shownBy_50 : decode cX0_shownBy 50 = .ok (.if_icmp .ge 7, 3) := by decide +kernel
theorem dX0_shownBy_53 : decode cX0_shownBy 53 = .ok (.iconst 0, 1) := by decide +kernel
theorem dX0_shownBy_54 : decode cX0_shownBy 54 = .ok (.goto 6, 3) := by decide +kernel
theorem dX0_shownBy_57 : decode cX0_shownBy 57 = .ok (.iload_n 2, 1) := by decide +kernel
theorem dX0_shownBy_58 : decode cX0_shownBy 58 = .ok (.iload_n 3, 1) := by decide +kernel
theorem dX0_shownBy_59 : decode cX0_shownBy 59 = .ok (.idiv, 1) := by decide +kernel
theorem dX0_shownBy_60 : decode cX0_shownBy 60 = .ok (.ireturn, 1) := by decide +kernel
theorem dX0_shownBy_61 : decode cX0_shownBy 61 = .ok (.iconst 2, 1) := by decide +kernel
theorem dX0_shownBy_62 : decode cX0_shownBy 62 = .ok (.iload_n 2, 1) := by decide +kernel
theorem dX0_shownBy_63 : decode cX0_shownBy 63 = .ok (.imul, 1) := by decide +kernel
theorem dX0_shownBy_64 : decode cX0_shownBy 64 = .ok (.ireturn, 1) := by decide +kernel
theorem dX0_shownBy_65 : decode cX0_shownBy 65 = .ok (.iload_n 2, 1) := by decide +kernel
theorem dX0_shownBy_66 : decode cX0_shownBy 66 = .ok (.ireturn, 1) := by decide +kernel
set_option maxRecDepth 20000 in
theorem ggX0_errorOf_X0_sweepOf : GoodIn wsX0_errorOf wsX0_sweepOf := goodIn_r _ [10, 1, 11, 12, 13, 14, 24, 25, 26, 27, 28, 29, 30, 31, 32, 33] (by decide +kernel) (by decide +kernel)
set_option maxRecDepth 20000 in
theorem gX0_errorOf_X0_sweepOf : GoodIn wsX0_errorOf (wsV RX0 53 RX0 yX0_sweepOf wsX0_sweepOf) := goodIn_app (goodIn_of _ (by decide +kernel)) ggX0_errorOf_X0_sweepOf
set_option maxRecDepth 20000 in
theorem ggX0_errorOf_X0_rollOf : GoodIn wsX0_errorOf wsX0_rollOf := goodIn_r _ [18, 19, 20, 21, 22, 9, 23, 2, 3, 4, 5, 24, 25, 26, 27, 28, 29, 30, 31, 32, 33] (by decide +kernel) (by decide +kernel)
set_option maxRecDepth 20000 in
theorem gX0_errorOf_X0_rollOf : GoodIn wsX0_errorOf (wsV RX0 73 RX0 yX0_rollOf wsX0_rollOf) := goodIn_app (goodIn_of _ (by decide +kernel)) ggX0_errorOf_X0_rollOf
theorem dX0_errorOf_0 : decode cX0_errorOf 0 = .ok (.iconst 0, 1) := by decide +kernel
theorem dX0_errorOf_1 : decode cX0_errorOf 1 = .ok (.istore_n 2, 1) := by decide +kernel
theorem dX0_errorOf_2 : decode cX0_errorOf 2 = .ok (.iconst 0, 1) := by decide +kernel
theorem dX0_errorOf_3 : decode cX0_errorOf 3 = .ok (.istore_n 3, 1) := by decide +kernel
theorem dX0_errorOf_4 : decode cX0_errorOf 4 = .ok (.iload_n 3, 1) := by decide +kernel
theorem dX0_errorOf_5 : decode cX0_errorOf 5 = .ok (.aload_n 0, 1) := by decide +kernel
theorem dX0_errorOf_6 : decode cX0_errorOf 6 = .ok (.getfield 18, 3) := by decide +kernel
theorem dX0_errorOf_9 : decode cX0_errorOf 9 = .ok (.if_icmp .ge 29, 3) := by decide +kernel
theorem dX0_errorOf_12 : decode cX0_errorOf 12 = .ok (.aload_n 0, 1) := by decide +kernel
theorem dX0_errorOf_13 : decode cX0_errorOf 13 = .ok (.iload_n 3, 1) := by decide +kernel
theorem dX0_errorOf_14 : decode cX0_errorOf 14 = .ok (.invokevirtual 53, 3) := by decide +kernel
theorem dX0_errorOf_17 : decode cX0_errorOf 17 = .ok (.istore 4, 2) := by decide +kernel
theorem dX0_errorOf_19 : decode cX0_errorOf 19 = .ok (.iload_n 2, 1) := by decide +kernel
theorem dX0_errorOf_20 : decode cX0_errorOf 20 = .ok (.aload_n 0, 1) := by decide +kernel
theorem dX0_errorOf_21 : decode cX0_errorOf 21 = .ok (.iload_n 1, 1) := by decide +kernel
theorem dX0_errorOf_22 : decode cX0_errorOf 22 = .ok (.iload 4, 2) := by decide +kernel
theorem dX0_errorOf_24 : decode cX0_errorOf 24 = .ok (.invokevirtual 73, 3) := by decide +kernel
theorem dX0_errorOf_27 : decode cX0_errorOf 27 = .ok (.iload 4, 2) := by decide +kernel
theorem dX0_errorOf_29 : decode cX0_errorOf 29 = .ok (.isub, 1) := by decide +kernel
theorem dX0_errorOf_30 : decode cX0_errorOf 30 = .ok (.iadd, 1) := by decide +kernel
theorem dX0_errorOf_31 : decode cX0_errorOf 31 = .ok (.istore_n 2, 1) := by decide +kernel
theorem dX0_errorOf_32 : decode cX0_errorOf 32 = .ok (.iinc 3 1, 3) := by decide +kernel
theorem dX0_errorOf_35 : decode cX0_errorOf 35 = .ok (.goto (-31), 3) := by decide +kernel
theorem dX0_errorOf_38 : decode cX0_errorOf 38 = .ok (.iload_n 2, 1) := by decide +kernel
theorem dX0_errorOf_39 : decode cX0_errorOf 39 = .ok (.invokestatic 61, 3) := by decide +kernel
theorem dX0_errorOf_42 : decode cX0_errorOf 42 = .ok (.ireturn, 1) := by decide +kernel
theorem dX0_sumOfSteps_0 : decode cX0_sumOfSteps 0 = .ok (.iconst 0, 1) := by decide +kernel
theorem dX0_sumOfSteps_1 : decode cX0_sumOfSteps 1 = .ok (.istore_n 1, 1) := by decide +kernel
theorem dX0_sumOfSteps_2 : decode cX0_sumOfSteps 2 = .ok (.iconst 0, 1) := by decide +kernel
theorem dX0_sumOfSteps_3 : decode cX0_sumOfSteps 3 = .ok (.istore_n 2, 1) := by decide +kernel
theorem dX0_sumOfSteps_4 : decode cX0_sumOfSteps 4 = .ok (.iload_n 2, 1) := by decide +kernel
theorem dX0_sumOfSteps_5 : decode cX0_sumOfSteps 5 = .ok (.aload_n 0, 1) := by decide +kernel
theorem dX0_sumOfSteps_6 : decode cX0_sumOfSteps 6 = .ok (.getfield 31, 3) := by decide +kernel
theorem dX0_sumOfSteps_9 : decode cX0_sumOfSteps 9 = .ok (.if_icmp .ge 18, 3) := by decide +kernel
theorem dX0_sumOfSteps_12 : decode cX0_sumOfSteps 12 = .ok (.iload_n 1, 1) := by decide +kernel
theorem dX0_sumOfSteps_13 : decode cX0_sumOfSteps 13 = .ok (.aload_n 0, 1) := by decide +kernel
theorem dX0_sumOfSteps_14 : decode cX0_sumOfSteps 14 = .ok (.getfield 25, 3) := by decide +kernel
theorem dX0_sumOfSteps_17 : decode cX0_sumOfSteps 17 = .ok (.iload_n 2, 1) := by decide +kernel
theorem dX0_sumOfSteps_18 : decode cX0_sumOfSteps 18 = .ok (.iaload, 1) := by decide +kernel
theorem dX0_sumOfSteps_19 : decode cX0_sumOfSteps 19 = .ok (.iadd, 1) := by decide +kernel
theorem dX0_sumOfSteps_20 : decode cX0_sumOfSteps 20 = .ok (.istore_n 1, 1) := by decide +kernel
theorem dX0_sumOfSteps_21 : decode cX0_sumOfSteps 21 = .ok (.iinc 2 1, 3) := by decide +kernel
theorem dX0_sumOfSteps_24 : decode cX0_sumOfSteps 24 = .ok (.goto (-20), 3) := by decide +kernel
theorem dX0_sumOfSteps_27 : decode cX0_sumOfSteps 27 = .ok (.iload_n 1, 1) := by decide +kernel
theorem dX0_sumOfSteps_28 : decode cX0_sumOfSteps 28 = .ok (.ireturn, 1) := by decide +kernel
theorem dX0_sumOfPlaces_0 : decode cX0_sumOfPlaces 0 = .ok (.iconst 0, 1) := by decide +kernel
theorem dX0_sumOfPlaces_1 : decode cX0_sumOfPlaces 1 = .ok (.istore_n 1, 1) := by decide +kernel
theorem dX0_sumOfPlaces_2 : decode cX0_sumOfPlaces 2 = .ok (.iconst 0, 1) := by decide +kernel
theorem dX0_sumOfPlaces_3 : decode cX0_sumOfPlaces 3 = .ok (.istore_n 2, 1) := by decide +kernel
theorem dX0_sumOfPlaces_4 : decode cX0_sumOfPlaces 4 = .ok (.iload_n 2, 1) := by decide +kernel
theorem dX0_sumOfPlaces_5 : decode cX0_sumOfPlaces 5 = .ok (.aload_n 0, 1) := by decide +kernel
theorem dX0_sumOfPlaces_6 : decode cX0_sumOfPlaces 6 = .ok (.getfield 18, 3) := by decide +kernel
theorem dX0_sumOfPlaces_9 : decode cX0_sumOfPlaces 9 = .ok (.if_icmp .ge 25, 3) := by decide +kernel
theorem dX0_sumOfPlaces_12 : decode cX0_sumOfPlaces 12 = .ok (.iload_n 1, 1) := by decide +kernel
theorem dX0_sumOfPlaces_13 : decode cX0_sumOfPlaces 13 = .ok (.aload_n 0, 1) := by decide +kernel
theorem dX0_sumOfPlaces_14 : decode cX0_sumOfPlaces 14 = .ok (.getfield 9, 3) := by decide +kernel
theorem dX0_sumOfPlaces_17 : decode cX0_sumOfPlaces 17 = .ok (.iload_n 2, 1) := by decide +kernel
theorem dX0_sumOfPlaces_18 : decode cX0_sumOfPlaces 18 = .ok (.iaload, 1) := by decide +kernel
theorem dX0_sumOfPlaces_19 : decode cX0_sumOfPlaces 19 = .ok (.aload_n 0, 1) := by decide +kernel
theorem dX0_sumOfPlaces_20 : decode cX0_sumOfPlaces 20 = .ok (.getfield 15, 3) := by decide +kernel
theorem dX0_sumOfPlaces_23 : decode cX0_sumOfPlaces 23 = .ok (.iload_n 2, 1) := by decide +kernel
theorem dX0_sumOfPlaces_24 : decode cX0_sumOfPlaces 24 = .ok (.iaload, 1) := by decide +kernel
theorem dX0_sumOfPlaces_25 : decode cX0_sumOfPlaces 25 = .ok (.iadd, 1) := by decide +kernel
theorem dX0_sumOfPlaces_26 : decode cX0_sumOfPlaces 26 = .ok (.iadd, 1) := by decide +kernel
theorem dX0_sumOfPlaces_27 : decode cX0_sumOfPlaces 27 = .ok (.istore_n 1, 1) := by decide +kernel
theorem dX0_sumOfPlaces_28 : decode cX0_sumOfPlaces 28 = .ok (.iinc 2 1, 3) := by decide +kernel
theorem dX0_sumOfPlaces_31 : decode cX0_sumOfPlaces 31 = .ok (.goto (-27), 3) := by decide +kernel
theorem dX0_sumOfPlaces_34 : decode cX0_sumOfPlaces 34 = .ok (.iload_n 1, 1) := by decide +kernel
theorem dX0_sumOfPlaces_35 : decode cX0_sumOfPlaces 35 = .ok (.ireturn, 1) := by decide +kernel
theorem dX1_init_0 : decode cX1_init 0 = .ok (.aload_n 0, 1) := by decide +kernel
theorem dX1_init_1 : decode cX1_init 1 = .ok (.invokespecial 3, 3) := by decide +kernel
theorem dX1_init_4 : decode cX1_init 4 = .ok (.aload_n 0, 1) := by decide +kernel
theorem dX1_init_5 : decode cX1_init 5 = .ok (.bipush 40, 2) := by decide +kernel
theorem dX1_init_7 : decode cX1_init 7 = .ok (.newarray .int, 2) := by decide +kernel
theorem dX1_init_9 : decode cX1_init 9 = .ok (.putfield 9, 3) := by decide +kernel
theorem dX1_init_12 : decode cX1_init 12 = .ok (.aload_n 0, 1) := by decide +kernel
theorem dX1_init_13 : decode cX1_init 13 = .ok (.iconst 0, 1) := by decide +kernel
theorem dX1_init_14 : decode cX1_init 14 = .ok (.putfield 15, 3) := by decide +kernel
theorem dX1_init_17 : decode cX1_init 17 = .ok (.aload_n 0, 1) := by decide +kernel
theorem dX1_init_18 : decode cX1_init 18 = .ok (.iconst (-1), 1) := by decide +kernel
theorem dX1_init_19 : decode cX1_init 19 = .ok (.putfield 19, 3) := by decide +kernel
theorem dX1_init_22 : decode cX1_init 22 = .ok (.return_, 1) := by decide +kernel
theorem dX1_isNothing_0 : decode cX1_isNothing 0 = .ok (.aload_n 0, 1) := by decide +kernel
theorem dX1_isNothing_1 : decode cX1_isNothing 1 = .ok (.getfield 19, 3) := by decide +kernel
theorem dX1_isNothing_4 : decode cX1_isNothing 4 = .ok (.iconst (-1), 1) := by decide +kernel
theorem dX1_isNothing_5 : decode cX1_isNothing 5 = .ok (.if_icmp .ne 7, 3) := by decide +kernel
theorem dX1_isNothing_8 : decode cX1_isNothing 8 = .ok (.iconst 1, 1) := by decide +kernel
theorem dX1_isNothing_9 : decode cX1_isNothing 9 = .ok (.goto 4, 3) := by decide +kernel
theorem dX1_isNothing_12 : decode cX1_isNothing 12 = .ok (.iconst 0, 1) := by decide +kernel
theorem dX1_isNothing_13 : decode cX1_isNothing 13 = .ok (.ireturn, 1) := by decide +kernel
theorem dX1_renew_0 : decode cX1_renew 0 = .ok (.iconst 0, 1) := by decide +kernel
theorem dX1_renew_1 : decode cX1_renew 1 = .ok (.istore_n 3, 1) := by decide +kernel
theorem dX1_renew_2 : decode cX1_renew 2 = .ok (.iload_n 3, 1) := by decide +kernel
theorem dX1_renew_3 : decode cX1_renew 3 = .ok (.bipush 40, 2) := by decide +kernel
theorem dX1_renew_5 : decode cX1_renew 5 = .ok (.if_icmp .ge 16, 3) := by decide +kernel
theorem dX1_renew_8 : decode cX1_renew 8 = .ok (.aload_n 0, 1) := by decide +kernel
theorem dX1_renew_9 : decode cX1_renew 9 = .ok (.getfield 9, 3) := by decide +kernel
theorem dX1_renew_12 : decode cX1_renew 12 = .ok (.iload_n 3, 1) := by decide +kernel
theorem dX1_renew_13 : decode cX1_renew 13 = .ok (.iconst 0, 1) := by decide +kernel
theorem dX1_renew_14 : decode cX1_renew 14 = .ok (.iastore, 1) := by decide +kernel
theorem dX1_renew_15 : decode cX1_renew 15 = .ok (.iinc 3 1, 3) := by decide +kernel
theorem dX1_renew_18 : decode cX1_renew 18 = .ok (.goto (-16), 3) := by decide +kernel
theorem dX1_renew_21 : decode cX1_renew 21 = .ok (.aload_n 0, 1) := by decide +kernel
theorem dX1_renew_22 : decode cX1_renew 22 = .ok (.iload_n 1, 1) := by decide +kernel
theorem dX1_renew_23 : decode cX1_renew 23 = .ok (.putfield 15, 3) := by decide +kernel
theorem dX1_renew_26 : decode cX1_renew 26 = .ok (.aload_n 0, 1) := by decide +kernel
theorem dX1_renew_27 : decode cX1_renew 27 = .ok (.iload_n 2, 1) := by decide +kernel
theorem dX1_renew_28 : decode cX1_renew 28 = .ok (.putfield 19, 3) := by decide +kernel
theorem dX1_renew_31 : decode cX1_renew 31 = .ok (.return_, 1) := by decide +kernel
theorem dX1_layCell_0 : decode cX1_layCell 0 = .ok (.aload_n 0, 1) := by decide +kernel
theorem dX1_layCell_1 : decode cX1_layCell 1 = .ok (.getfield 15, 3) := by decide +kernel
theorem dX1_layCell_4 : decode cX1_layCell 4 = .ok (.ifCond .ne 14, 3) := by decide +kernel
theorem dX1_layCell_7 : decode cX1_layCell 7 = .ok (.aload_n 0, 1) := by decide +kernel
theorem dX1_layCell_8 : decode cX1_layCell 8 = .ok (.getfield 9, 3) := by decide +kernel
theorem dX1_layCell_11 : decode cX1_layCell 11 = .ok (.iload_n 1, 1) := by decide +kernel
theorem dX1_layCell_12 : decode cX1_layCell 12 = .ok (.iload_n 2, 1) := by decide +kernel
theorem dX1_layCell_13 : decode cX1_layCell 13 = .ok (.i2b, 1) := by decide +kernel
theorem dX1_layCell_14 : decode cX1_layCell 14 = .ok (.iastore, 1) := by decide +kernel
theorem dX1_layCell_15 : decode cX1_layCell 15 = .ok (.goto 29, 3) := by decide +kernel
theorem dX1_layCell_18 : decode cX1_layCell 18 = .ok (.aload_n 0, 1) := by decide +kernel
theorem dX1_layCell_19 : decode cX1_layCell 19 = .ok (.getfield 15, 3) := by decide +kernel
theorem dX1_layCell_22 : decode cX1_layCell 22 = .ok (.iconst 1, 1) := by decide +kernel
theorem dX1_layCell_23 : decode cX1_layCell 23 = .ok (.if_icmp .ne 14, 3) := by decide +kernel
theorem dX1_layCell_26 : decode cX1_layCell 26 = .ok (.aload_n 0, 1) := by decide +kernel
theorem dX1_layCell_27 : decode cX1_layCell 27 = .ok (.getfield 9, 3) := by decide +kernel
theorem dX1_layCell_30 : decode cX1_layCell 30 = .ok (.iload_n 1, 1) := by decide +kernel
theorem dX1_layCell_31 : decode cX1_layCell 31 = .ok (.iload_n 2, 1) := by decide +kernel
theorem dX1_layCell_32 : decode cX1_layCell 32 = .ok (.i2s, 1) := by decide +kernel
theorem dX1_layCell_33 : decode cX1_layCell 33 = .ok (.iastore, 1) := by decide +kernel
theorem dX1_layCell_34 : decode cX1_layCell 34 = .ok (.goto 10, 3) := by decide +kernel
theorem dX1_layCell_37 : decode cX1_layCell 37 = .ok (.aload_n 0, 1) := by decide +kernel
theorem dX1_layCell_38 : decode cX1_layCell 38 = .ok (.getfield 9, 3) := by decide +kernel
theorem dX1_layCell_41 : decode cX1_layCell 41 = .ok (.iload_n 1, 1) := by decide +kernel
theorem dX1_layCell_42 : decode cX1_layCell 42 = .ok (.iload_n 2, 1) := by decide +kernel
theorem dX1_layCell_43 : decode cX1_layCell 43 = .ok (.iastore, 1) := by decide +kernel
theorem dX1_layCell_44 : decode cX1_layCell 44 = .ok (.return_, 1) := by decide +kernel
set_option maxRecDepth 20000 in
theorem ggX1_faultAt_X1_isNothing : GoodIn wsX1_faultAt wsX1_isNothing := goodIn_r _ [7, 2, 11, 12, 13] (by decide +kernel) (by decide +kernel)
set_option maxRecDepth 20000 in
theorem gX1_faultAt_X1_isNothing : GoodIn wsX1_faultAt (wsV RX1 22 RX1 yX1_isNothing wsX1_isNothing) := goodIn_app (goodIn_of _ (by decide +kernel)) ggX1_faultAt_X1_isNothing
set_option maxRecDepth 20000 in
theorem ggX1_faultAt_X5_within : GoodIn wsX1_faultAt wsX5_within := goodIn_r _ [10] (by decide +kernel) (by decide +kernel)
set_option maxRecDepth 20000 in
theorem gX1_faultAt_X5_within_n26 : GoodIn wsX1_faultAt (wsX5_within) := ggX1_faultAt_X5_within
theorem dX1_faultAt_0 : decode cX1_faultAt 0 = .ok (.aload_n 0, 1) := by decide +kernel
theorem dX1_faultAt_1 : decode cX1_faultAt 1 = .ok (.invokevirtual 22, 3) := by decide +kernel
theorem dX1_faultAt_4 : decode cX1_faultAt 4 = .ok (.ifCond .eq 5, 3) := by decide +kernel
theorem dX1_faultAt_7 : decode cX1_faultAt 7 = .ok (.iconst 1, 1) := by decide +kernel
theorem dX1_faultAt_8 : decode cX1_faultAt 8 = .ok (.ireturn, 1) := by decide +kernel
theorem dX1_faultAt_9 : decode cX1_faultAt 9 = .ok (.iload_n 1, 1) := by decide +kernel
theorem dX1_faultAt_10 : decode cX1_faultAt 10 = .ok (.aload_n 0, 1) := by decide +kernel
theorem dX1_faultAt_11 : decode cX1_faultAt 11 = .ok (.getfield 15, 3) := by decide +kernel
theorem dX1_faultAt_14 : decode cX1_faultAt 14 = .ok (.if_icmp .eq 5, 3) := by decide +kernel
theorem dX1_faultAt_17 : decode cX1_faultAt 17 = .ok (.iconst 3, 1) := by decide +kernel
theorem dX1_faultAt_18 : decode cX1_faultAt 18 = .ok (.ireturn, 1) := by decide +kernel
theorem dX1_faultAt_19 : decode cX1_faultAt 19 = .ok (.iload_n 2, 1) := by decide +kernel
theorem dX1_faultAt_20 : decode cX1_faultAt 20 = .ok (.iconst 0, 1) := by decide +kernel
theorem dX1_faultAt_21 : decode cX1_faultAt 21 = .ok (.aload_n 0, 1) := by decide +kernel
theorem dX1_faultAt_22 : decode cX1_faultAt 22 = .ok (.getfield 19, 3) := by decide +kernel
theorem dX1_faultAt_25 : decode cX1_faultAt 25 = .ok (.iconst 1, 1) := by decide +kernel
theorem dX1_faultAt_26 : decode cX1_faultAt 26 = .ok (.isub, 1) := by decide +kernel
theorem dX1_faultAt_27 : decode cX1_faultAt 27 = .ok (.invokestatic 26, 3) := by decide +kernel
theorem dX1_faultAt_30 : decode cX1_faultAt 30 = .ok (.ifCond .eq 7, 3) := by decide +kernel
theorem dX1_faultAt_33 : decode cX1_faultAt 33 = .ok (.iconst 0, 1) := by decide +kernel
theorem dX1_faultAt_34 : decode cX1_faultAt 34 = .ok (.goto 4, 3) := by decide +kernel
theorem dX1_faultAt_37 : decode cX1_faultAt 37 = .ok (.iconst 2, 1) := by decide +kernel
theorem dX1_faultAt_38 : decode cX1_faultAt 38 = .ok (.ireturn, 1) := by decide +kernel
set_option maxRecDepth 20000 in
theorem ggX1_faultAtPair_X1_faultAt : GoodIn wsX1_faultAtPair wsX1_faultAt := goodIn_r _ [5, 6, 7, 8, 9, 10, 4, 11, 12, 13, 14, 15, 16, 17] (by decide +kernel) (by decide +kernel)
set_option maxRecDepth 20000 in
theorem gX1_faultAtPair_X1_faultAt : GoodIn wsX1_faultAtPair (wsV RX1 30 RX1 yX1_faultAt wsX1_faultAt) := goodIn_app (goodIn_of _ (by decide +kernel)) ggX1_faultAtPair_X1_faultAt
theorem dX1_faultAtPair_0 : decode cX1_faultAtPair 0 = .ok (.aload_n 0, 1) := by decide +kernel
theorem dX1_faultAtPair_1 : decode cX1_faultAtPair 1 = .ok (.iload_n 1, 1) := by decide +kernel
theorem dX1_faultAtPair_2 : decode cX1_faultAtPair 2 = .ok (.iload_n 2, 1) := by decide +kernel
theorem dX1_faultAtPair_3 : decode cX1_faultAtPair 3 = .ok (.invokevirtual 30, 3) := by decide +kernel
theorem dX1_faultAtPair_6 : decode cX1_faultAtPair 6 = .ok (.istore_n 3, 1) := by decide +kernel
theorem dX1_faultAtPair_7 : decode cX1_faultAtPair 7 = .ok (.iload_n 3, 1) := by decide +kernel
theorem dX1_faultAtPair_8 : decode cX1_faultAtPair 8 = .ok (.ifCond .eq 7, 3) := by decide +kernel
theorem dX1_faultAtPair_11 : decode cX1_faultAtPair 11 = .ok (.iload_n 3, 1) := by decide +kernel
theorem dX1_faultAtPair_12 : decode cX1_faultAtPair 12 = .ok (.goto 11, 3) := by decide +kernel
theorem dX1_faultAtPair_15 : decode cX1_faultAtPair 15 = .ok (.aload_n 0, 1) := by decide +kernel
theorem dX1_faultAtPair_16 : decode cX1_faultAtPair 16 = .ok (.iload_n 1, 1) := by decide +kernel
theorem dX1_faultAtPair_17 : decode cX1_faultAtPair 17 = .ok (.iload_n 2, 1) := by decide +kernel
theorem dX1_faultAtPair_18 : decode cX1_faultAtPair 18 = .ok (.iconst 1, 1) := by decide +kernel
theorem dX1_faultAtPair_19 : decode cX1_faultAtPair 19 = .ok (.iadd, 1) := by decide +kernel
theorem dX1_faultAtPair_20 : decode cX1_faultAtPair 20 = .ok (.invokevirtual 30, 3) := by decide +kernel
theorem dX1_faultAtPair_23 : decode cX1_faultAtPair 23 = .ok (.ireturn, 1) := by decide +kernel
theorem dX2_init_0 : decode cX2_init 0 = .ok (.aload_n 0, 1) := by decide +kernel
theorem dX2_init_1 : decode cX2_init 1 = .ok (.invokespecial 3, 3) := by decide +kernel
theorem dX2_init_4 : decode cX2_init 4 = .ok (.aload_n 0, 1) := by decide +kernel
theorem dX2_init_5 : decode cX2_init 5 = .ok (.bipush 6, 2) := by decide +kernel
theorem dX2_init_7 : decode cX2_init 7 = .ok (.newarray .int, 2) := by decide +kernel
theorem dX2_init_9 : decode cX2_init 9 = .ok (.putfield 9, 3) := by decide +kernel
theorem dX2_init_12 : decode cX2_init 12 = .ok (.aload_n 0, 1) := by decide +kernel
theorem dX2_init_13 : decode cX2_init 13 = .ok (.bipush 6, 2) := by decide +kernel
theorem dX2_init_15 : decode cX2_init 15 = .ok (.newarray .int, 2) := by decide +kernel
theorem dX2_init_17 : decode cX2_init 17 = .ok (.putfield 15, 3) := by decide +kernel
theorem dX2_init_20 : decode cX2_init 20 = .ok (.aload_n 0, 1) := by decide +kernel
theorem dX2_init_21 : decode cX2_init 21 = .ok (.bipush 6, 2) := by decide +kernel
theorem dX2_init_23 : decode cX2_init 23 = .ok (.newarray .int, 2) := by decide +kernel
theorem dX2_init_25 : decode cX2_init 25 = .ok (.putfield 18, 3) := by decide +kernel
theorem dX2_init_28 : decode cX2_init 28 = .ok (.aload_n 0, 1) := by decide +kernel
theorem dX2_init_29 : decode cX2_init 29 = .ok (.iconst 0, 1) := by decide +kernel
theorem dX2_init_30 : decode cX2_init 30 = .ok (.putfield 21, 3) := by decide +kernel
theorem dX2_init_33 : decode cX2_init 33 = .ok (.return_, 1) := by decide +kernel
theorem dX2_append_0 : decode cX2_append 0 = .ok (.aload_n 0, 1) := by decide +kernel
theorem dX2_append_1 : decode cX2_append 1 = .ok (.getfield 21, 3) := by decide +kernel
theorem dX2_append_4 : decode cX2_append 4 = .ok (.bipush 6, 2) := by decide +kernel
theorem dX2_append_6 : decode cX2_append 6 = .ok (.if_icmp .ge 43, 3) := by decide +kernel
theorem dX2_append_9 : decode cX2_append 9 = .ok (.aload_n 0, 1) := by decide +kernel
theorem dX2_append_10 : decode cX2_append 10 = .ok (.getfield 9, 3) := by decide +kernel
theorem dX2_append_13 : decode cX2_append 13 = .ok (.aload_n 0, 1) := by decide +kernel
theorem dX2_append_14 : decode cX2_append 14 = .ok (.getfield 21, 3) := by decide +kernel
theorem dX2_append_17 : decode cX2_append 17 = .ok (.iload_n 1, 1) := by decide +kernel
theorem dX2_append_18 : decode cX2_append 18 = .ok (.iastore, 1) := by decide +kernel
theorem dX2_append_19 : decode cX2_append 19 = .ok (.aload_n 0, 1) := by decide +kernel
theorem dX2_append_20 : decode cX2_append 20 = .ok (.getfield 15, 3) := by decide +kernel
theorem dX2_append_23 : decode cX2_append 23 = .ok (.aload_n 0, 1) := by decide +kernel
theorem dX2_append_24 : decode cX2_append 24 = .ok (.getfield 21, 3) := by decide +kernel
theorem dX2_append_27 : decode cX2_append 27 = .ok (.iload_n 2, 1) := by decide +kernel
theorem dX2_append_28 : decode cX2_append 28 = .ok (.iastore, 1) := by decide +kernel
theorem dX2_append_29 : decode cX2_append 29 = .ok (.aload_n 0, 1) := by decide +kernel
theorem dX2_append_30 : decode cX2_append 30 = .ok (.getfield 18, 3) := by decide +kernel
theorem dX2_append_33 : decode cX2_append 33 = .ok (.aload_n 0, 1) := by decide +kernel
theorem dX2_append_34 : decode cX2_append 34 = .ok (.getfield 21, 3) := by decide +kernel
theorem dX2_append_37 : decode cX2_append 37 = .ok (.iload_n 3, 1) := by decide +kernel
theorem dX2_append_38 : decode cX2_append 38 = .ok (.iastore, 1) := by decide +kernel
theorem dX2_append_39 : decode cX2_append 39 = .ok (.aload_n 0, 1) := by decide +kernel
theorem dX2_append_40 : decode cX2_append 40 = .ok (.dup, 1) := by decide +kernel
theorem dX2_append_41 : decode cX2_append 41 = .ok (.getfield 21, 3) := by decide +kernel
theorem dX2_append_44 : decode cX2_append 44 = .ok (.iconst 1, 1) := by decide +kernel
theorem dX2_append_45 : decode cX2_append 45 = .ok (.iadd, 1) := by decide +kernel
theorem dX2_append_46 : decode cX2_append 46 = .ok (.putfield 21, 3) := by decide +kernel
theorem dX2_append_49 : decode cX2_append 49 = .ok (.return_, 1) := by decide +kernel
set_option maxRecDepth 20000 in
theorem ggX2_agreeWith_X0_readsAhead : GoodIn wsX2_agreeWith wsX0_readsAhead := goodIn_r _ [10, 11, 12, 13, 14, 9, 15, 16, 17, 18, 19, 20, 21, 22, 23, 24, 25, 26, 27, 28, 29, 30, 31, 32, 33, 34, 35, 36, 37, 38, 39, 40, 41, 42, 47, 48, 49, 50, 51, 52, 53, 54, 55, 56] (by decide +kernel) (by decide +kernel)
set_option maxRecDepth 20000 in
theorem gX2_agreeWith_X0_readsAhead : GoodIn wsX2_agreeWith (wsV RX2 30 RX0 yX0_readsAhead wsX0_readsAhead) := goodIn_app (goodIn_of _ (by decide +kernel)) ggX2_agreeWith_X0_readsAhead
theorem dX2_agreeWith_0 : decode cX2_agreeWith 0 = .ok (.iconst 0, 1) := by decide +kernel
theorem dX2_agreeWith_1 : decode cX2_agreeWith 1 = .ok (.istore_n 2, 1) := by decide +kernel
theorem dX2_agreeWith_2 : decode cX2_agreeWith 2 = .ok (.iload_n 2, 1) := by decide +kernel
theorem dX2_agreeWith_3 : decode cX2_agreeWith 3 = .ok (.aload_n 0, 1) := by decide +kernel
theorem dX2_agreeWith_4 : decode cX2_agreeWith 4 = .ok (.getfield 21, 3) := by decide +kernel
theorem dX2_agreeWith_7 : decode cX2_agreeWith 7 = .ok (.if_icmp .ge 49, 3) := by decide +kernel
theorem dX2_agreeWith_10 : decode cX2_agreeWith 10 = .ok (.aload_n 0, 1) := by decide +kernel
theorem dX2_agreeWith_11 : decode cX2_agreeWith 11 = .ok (.getfield 15, 3) := by decide +kernel
theorem dX2_agreeWith_14 : decode cX2_agreeWith 14 = .ok (.iload_n 2, 1) := by decide +kernel
theorem dX2_agreeWith_15 : decode cX2_agreeWith 15 = .ok (.iaload, 1) := by decide +kernel
theorem dX2_agreeWith_16 : decode cX2_agreeWith 16 = .ok (.aload_n 1, 1) := by decide +kernel
theorem dX2_agreeWith_17 : decode cX2_agreeWith 17 = .ok (.getfield 25, 3) := by decide +kernel
theorem dX2_agreeWith_20 : decode cX2_agreeWith 20 = .ok (.if_icmp .ge 28, 3) := by decide +kernel
theorem dX2_agreeWith_23 : decode cX2_agreeWith 23 = .ok (.aload_n 1, 1) := by decide +kernel
theorem dX2_agreeWith_24 : decode cX2_agreeWith 24 = .ok (.aload_n 0, 1) := by decide +kernel
theorem dX2_agreeWith_25 : decode cX2_agreeWith 25 = .ok (.getfield 15, 3) := by decide +kernel
theorem dX2_agreeWith_28 : decode cX2_agreeWith 28 = .ok (.iload_n 2, 1) := by decide +kernel
theorem dX2_agreeWith_29 : decode cX2_agreeWith 29 = .ok (.iaload, 1) := by decide +kernel
theorem dX2_agreeWith_30 : decode cX2_agreeWith 30 = .ok (.aload_n 0, 1) := by decide +kernel
theorem dX2_agreeWith_31 : decode cX2_agreeWith 31 = .ok (.getfield 9, 3) := by decide +kernel
theorem dX2_agreeWith_34 : decode cX2_agreeWith 34 = .ok (.iload_n 2, 1) := by decide +kernel
theorem dX2_agreeWith_35 : decode cX2_agreeWith 35 = .ok (.iaload, 1) := by decide +kernel
theorem dX2_agreeWith_36 : decode cX2_agreeWith 36 = .ok (.invokevirtual 30, 3) := by decide +kernel
theorem dX2_agreeWith_39 : decode cX2_agreeWith 39 = .ok (.aload_n 0, 1) := by decide +kernel
theorem dX2_agreeWith_40 : decode cX2_agreeWith 40 = .ok (.getfield 18, 3) := by decide +kernel
theorem dX2_agreeWith_43 : decode cX2_agreeWith 43 = .ok (.iload_n 2, 1) := by decide +kernel
theorem dX2_agreeWith_44 : decode cX2_agreeWith 44 = .ok (.iaload, 1) := by decide +kernel
theorem dX2_agreeWith_45 : decode cX2_agreeWith 45 = .ok (.if_icmp .eq 5, 3) := by decide +kernel
theorem dX2_agreeWith_48 : decode cX2_agreeWith 48 = .ok (.iconst 0, 1) := by decide +kernel
theorem dX2_agreeWith_49 : decode cX2_agreeWith 49 = .ok (.ireturn, 1) := by decide +kernel
theorem dX2_agreeWith_50 : decode cX2_agreeWith 50 = .ok (.iinc 2 1, 3) := by decide +kernel
theorem dX2_agreeWith_53 : decode cX2_agreeWith 53 = .ok (.goto (-51), 3) := by decide +kernel
theorem dX2_agreeWith_56 : decode cX2_agreeWith 56 = .ok (.iconst 1, 1) := by decide +kernel
theorem dX2_agreeWith_57 : decode cX2_agreeWith 57 = .ok (.ireturn, 1) := by decide +kernel
theorem dX3_init_0 : decode cX3_init 0 = .ok (.aload_n 0, 1) := by decide +kernel
theorem dX3_init_1 : decode cX3_init 1 = .ok (.invokespecial 3, 3) := by decide +kernel
theorem dX3_init_4 : decode cX3_init 4 = .ok (.aload_n 0, 1) := by decide +kernel
theorem dX3_init_5 : decode cX3_init 5 = .ok (.sipush 160, 3) := by decide +kernel
theorem dX3_init_8 : decode cX3_init 8 = .ok (.newarray .byte, 2) := by decide +kernel
theorem dX3_init_10 : decode cX3_init 10 = .ok (.putfield 9, 3) := by decide +kernel
theorem dX3_init_13 : decode cX3_init 13 = .ok (.aload_n 0, 1) := by decide +kernel
theorem dX3_init_14 : decode cX3_init 14 = .ok (.iconst 0, 1) := by decide +kernel
theorem dX3_init_15 : decode cX3_init 15 = .ok (.putfield 15, 3) := by decide +kernel
theorem dX3_init_18 : decode cX3_init 18 = .ok (.aload_n 0, 1) := by decide +kernel
theorem dX3_init_19 : decode cX3_init 19 = .ok (.iconst 0, 1) := by decide +kernel
theorem dX3_init_20 : decode cX3_init 20 = .ok (.putfield 19, 3) := by decide +kernel
theorem dX3_init_23 : decode cX3_init 23 = .ok (.aload_n 0, 1) := by decide +kernel
theorem dX3_init_24 : decode cX3_init 24 = .ok (.iconst 0, 1) := by decide +kernel
theorem dX3_init_25 : decode cX3_init 25 = .ok (.putfield 22, 3) := by decide +kernel
theorem dX3_init_28 : decode cX3_init 28 = .ok (.aload_n 0, 1) := by decide +kernel
theorem dX3_init_29 : decode cX3_init 29 = .ok (.iconst 0, 1) := by decide +kernel
theorem dX3_init_30 : decode cX3_init 30 = .ok (.putfield 25, 3) := by decide +kernel
theorem dX3_init_33 : decode cX3_init 33 = .ok (.return_, 1) := by decide +kernel
theorem dX3_append_0 : decode cX3_append 0 = .ok (.aload_n 0, 1) := by decide +kernel
theorem dX3_append_1 : decode cX3_append 1 = .ok (.getfield 15, 3) := by decide +kernel
theorem dX3_append_4 : decode cX3_append 4 = .ok (.sipush 160, 3) := by decide +kernel
theorem dX3_append_7 : decode cX3_append 7 = .ok (.if_icmp .ge 24, 3) := by decide +kernel
theorem dX3_append_10 : decode cX3_append 10 = .ok (.aload_n 0, 1) := by decide +kernel
theorem dX3_append_11 : decode cX3_append 11 = .ok (.getfield 9, 3) := by decide +kernel
theorem dX3_append_14 : decode cX3_append 14 = .ok (.aload_n 0, 1) := by decide +kernel
theorem dX3_append_15 : decode cX3_append 15 = .ok (.getfield 15, 3) := by decide +kernel
theorem dX3_append_18 : decode cX3_append 18 = .ok (.iload_n 1, 1) := by decide +kernel
theorem dX3_append_19 : decode cX3_append 19 = .ok (.i2b, 1) := by decide +kernel
theorem dX3_append_20 : decode cX3_append 20 = .ok (.bastore, 1) := by decide +kernel
theorem dX3_append_21 : decode cX3_append 21 = .ok (.aload_n 0, 1) := by decide +kernel
theorem dX3_append_22 : decode cX3_append 22 = .ok (.dup, 1) := by decide +kernel
theorem dX3_append_23 : decode cX3_append 23 = .ok (.getfield 15, 3) := by decide +kernel
theorem dX3_append_26 : decode cX3_append 26 = .ok (.iconst 1, 1) := by decide +kernel
theorem dX3_append_27 : decode cX3_append 27 = .ok (.iadd, 1) := by decide +kernel
theorem dX3_append_28 : decode cX3_append 28 = .ok (.putfield 15, 3) := by decide +kernel
theorem dX3_append_31 : decode cX3_append 31 = .ok (.return_, 1) := by decide +kernel
theorem dX3_rewind_0 : decode cX3_rewind 0 = .ok (.aload_n 0, 1) := by decide +kernel
theorem dX3_rewind_1 : decode cX3_rewind 1 = .ok (.iconst 0, 1) := by decide +kernel
theorem dX3_rewind_2 : decode cX3_rewind 2 = .ok (.putfield 25, 3) := by decide +kernel
theorem dX3_rewind_5 : decode cX3_rewind 5 = .ok (.return_, 1) := by decide +kernel
set_option maxRecDepth 20000 in
theorem ggX3_nextToken_X3_endOfRun : GoodIn wsX3_nextToken wsX3_endOfRun := goodIn_r _ [10, 3, 5, 11, 12, 13, 14, 15] (by decide +kernel) (by decide +kernel)
set_option maxRecDepth 20000 in
theorem gX3_nextToken_X3_endOfRun : GoodIn wsX3_nextToken (wsV RX3 28 RX3 yX3_endOfRun wsX3_endOfRun) := goodIn_app (goodIn_of _ (by decide +kernel)) ggX3_nextToken_X3_endOfRun
theorem dX3_nextToken_0 : decode cX3_nextToken 0 = .ok (.aload_n 0, 1) := by decide +kernel
theorem dX3_nextToken_1 : decode cX3_nextToken 1 = .ok (.aload_n 0, 1) := by decide +kernel
theorem dX3_nextToken_2 : decode cX3_nextToken 2 = .ok (.aload_n 0, 1) := by decide +kernel
theorem dX3_nextToken_3 : decode cX3_nextToken 3 = .ok (.getfield 25, 3) := by decide +kernel
theorem dX3_nextToken_6 : decode cX3_nextToken 6 = .ok (.bipush 32, 2) := by decide +kernel
theorem dX3_nextToken_8 : decode cX3_nextToken 8 = .ok (.bipush 32, 2) := by decide +kernel
theorem dX3_nextToken_10 : decode cX3_nextToken 10 = .ok (.invokevirtual 28, 3) := by decide +kernel
theorem dX3_nextToken_13 : decode cX3_nextToken 13 = .ok (.putfield 22, 3) := by decide +kernel
theorem dX3_nextToken_16 : decode cX3_nextToken 16 = .ok (.aload_n 0, 1) := by decide +kernel
theorem dX3_nextToken_17 : decode cX3_nextToken 17 = .ok (.getfield 22, 3) := by decide +kernel
theorem dX3_nextToken_20 : decode cX3_nextToken 20 = .ok (.aload_n 0, 1) := by decide +kernel
theorem dX3_nextToken_21 : decode cX3_nextToken 21 = .ok (.getfield 15, 3) := by decide +kernel
theorem dX3_nextToken_24 : decode cX3_nextToken 24 = .ok (.if_icmp .lt 9, 3) := by decide +kernel
theorem dX3_nextToken_27 : decode cX3_nextToken 27 = .ok (.aload_n 0, 1) := by decide +kernel
theorem dX3_nextToken_28 : decode cX3_nextToken 28 = .ok (.iconst 0, 1) := by decide +kernel
theorem dX3_nextToken_29 : decode cX3_nextToken 29 = .ok (.putfield 19, 3) := by decide +kernel
theorem dX3_nextToken_32 : decode cX3_nextToken 32 = .ok (.return_, 1) := by decide +kernel
theorem dX3_nextToken_33 : decode cX3_nextToken 33 = .ok (.aload_n 0, 1) := by decide +kernel
theorem dX3_nextToken_34 : decode cX3_nextToken 34 = .ok (.getfield 9, 3) := by decide +kernel
theorem dX3_nextToken_37 : decode cX3_nextToken 37 = .ok (.aload_n 0, 1) := by decide +kernel
theorem dX3_nextToken_38 : decode cX3_nextToken 38 = .ok (.getfield 22, 3) := by decide +kernel
theorem dX3_nextToken_41 : decode cX3_nextToken 41 = .ok (.baload, 1) := by decide +kernel
theorem dX3_nextToken_42 : decode cX3_nextToken 42 = .ok (.istore_n 1, 1) := by decide +kernel
theorem dX3_nextToken_43 : decode cX3_nextToken 43 = .ok (.iload_n 1, 1) := by decide +kernel
theorem dX3_nextToken_44 : decode cX3_nextToken 44 = .ok (.bipush 97, 2) := by decide +kernel
theorem dX3_nextToken_46 : decode cX3_nextToken 46 = .ok (.if_icmp .lt 33, 3) := by decide +kernel
theorem dX3_nextToken_49 : decode cX3_nextToken 49 = .ok (.iload_n 1, 1) := by decide +kernel
theorem dX3_nextToken_50 : decode cX3_nextToken 50 = .ok (.bipush 122, 2) := by decide +kernel
theorem dX3_nextToken_52 : decode cX3_nextToken 52 = .ok (.if_icmp .gt 27, 3) := by decide +kernel
theorem dX3_nextToken_55 : decode cX3_nextToken 55 = .ok (.aload_n 0, 1) := by decide +kernel
theorem dX3_nextToken_56 : decode cX3_nextToken 56 = .ok (.aload_n 0, 1) := by decide +kernel
theorem dX3_nextToken_57 : decode cX3_nextToken 57 = .ok (.aload_n 0, 1) := by decide +kernel
theorem dX3_nextToken_58 : decode cX3_nextToken 58 = .ok (.getfield 22, 3) := by decide +kernel
theorem dX3_nextToken_61 : decode cX3_nextToken 61 = .ok (.bipush 97, 2) := by decide +kernel
theorem dX3_nextToken_63 : decode cX3_nextToken 63 = .ok (.bipush 122, 2) := by decide +kernel
theorem dX3_nextToken_65 : decode cX3_nextToken 65 = .ok (.invokevirtual 28, 3) := by decide +kernel
theorem dX3_nextToken_68 : decode cX3_nextToken 68 = .ok (.putfield 25, 3) := by decide +kernel
theorem dX3_nextToken_71 : decode cX3_nextToken 71 = .ok (.aload_n 0, 1) := by decide +kernel
theorem dX3_nextToken_72 : decode cX3_nextToken 72 = .ok (.iconst 1, 1) := by decide +kernel
theorem dX3_nextToken_73 : decode cX3_nextToken 73 = .ok (.putfield 19, 3) := by decide +kernel
theorem dX3_nextToken_76 : decode cX3_nextToken 76 = .ok (.goto 81, 3) := by decide +kernel
theorem dX3_nextToken_79 : decode cX3_nextToken 79 = .ok (.iload_n 1, 1) := by decide +kernel
theorem dX3_nextToken_80 : decode cX3_nextToken 80 = .ok (.bipush 48, 2) := by decide +kernel
theorem dX3_nextToken_82 : decode cX3_nextToken 82 = .ok (.if_icmp .lt 50, 3) := by decide +kernel
theorem dX3_nextToken_85 : decode cX3_nextToken 85 = .ok (.iload_n 1, 1) := by decide +kernel
theorem dX3_nextToken_86 : decode cX3_nextToken 86 = .ok (.bipush 57, 2) := by decide +kernel
theorem dX3_nextToken_88 : decode cX3_nextToken 88 = .ok (.if_icmp .gt 44, 3) := by decide +kernel
theorem dX3_nextToken_91 : decode cX3_nextToken 91 = .ok (.aload_n 0, 1) := by decide +kernel
theorem dX3_nextToken_92 : decode cX3_nextToken 92 = .ok (.aload_n 0, 1) := by decide +kernel
theorem dX3_nextToken_93 : decode cX3_nextToken 93 = .ok (.aload_n 0, 1) := by decide +kernel
theorem dX3_nextToken_94 : decode cX3_nextToken 94 = .ok (.getfield 22, 3) := by decide +kernel
theorem dX3_nextToken_97 : decode cX3_nextToken 97 = .ok (.bipush 48, 2) := by decide +kernel
theorem dX3_nextToken_99 : decode cX3_nextToken 99 = .ok (.bipush 57, 2) := by decide +kernel
theorem dX3_nextToken_101 : decode cX3_nextToken 101 = .ok (.invokevirtual 28, 3) := by decide +kernel
theorem dX3_nextToken_104 : decode cX3_nextToken 104 = .ok (.putfield 25, 3) := by decide +kernel
theorem dX3_nextToken_107 : decode cX3_nextToken 107 = .ok (.aload_n 0, 1) := by decide +kernel
theorem dX3_nextToken_108 : decode cX3_nextToken 108 = .ok (.aload_n 0, 1) := by decide +kernel
theorem dX3_nextToken_109 : decode cX3_nextToken 109 = .ok (.getfield 25, 3) := by decide +kernel
theorem dX3_nextToken_112 : decode cX3_nextToken 112 = .ok (.aload_n 0, 1) := by decide +kernel
theorem dX3_nextToken_113 : decode cX3_nextToken 113 = .ok (.getfield 22, 3) := by decide +kernel
theorem dX3_nextToken_116 : decode cX3_nextToken 116 = .ok (.isub, 1) := by decide +kernel
theorem dX3_nextToken_117 : decode cX3_nextToken 117 = .ok (.iconst 2, 1) := by decide +kernel
theorem dX3_nextToken_118 : decode cX3_nextToken 118 = .ok (.if_icmp .gt 7, 3) := by decide +kernel
theorem dX3_nextToken_121 : decode cX3_nextToken 121 = .ok (.iconst 2, 1) := by decide +kernel
theorem dX3_nextToken_122 : decode cX3_nextToken 122 = .ok (.goto 4, 3) := by decide +kernel
theorem dX3_nextToken_125 : decode cX3_nextToken 125 = .ok (.iconst 4, 1) := by decide +kernel
theorem dX3_nextToken_126 : decode cX3_nextToken 126 = .ok (.putfield 19, 3) := by decide +kernel
theorem dX3_nextToken_129 : decode cX3_nextToken 129 = .ok (.goto 28, 3) := by decide +kernel
theorem dX3_nextToken_132 : decode cX3_nextToken 132 = .ok (.aload_n 0, 1) := by decide +kernel
theorem dX3_nextToken_133 : decode cX3_nextToken 133 = .ok (.aload_n 0, 1) := by decide +kernel
theorem dX3_nextToken_134 : decode cX3_nextToken 134 = .ok (.getfield 22, 3) := by decide +kernel
theorem dX3_nextToken_137 : decode cX3_nextToken 137 = .ok (.iconst 1, 1) := by decide +kernel
theorem dX3_nextToken_138 : decode cX3_nextToken 138 = .ok (.iadd, 1) := by decide +kernel
theorem dX3_nextToken_139 : decode cX3_nextToken 139 = .ok (.putfield 25, 3) := by decide +kernel
theorem dX3_nextToken_142 : decode cX3_nextToken 142 = .ok (.aload_n 0, 1) := by decide +kernel
theorem dX3_nextToken_143 : decode cX3_nextToken 143 = .ok (.iload_n 1, 1) := by decide +kernel
theorem dX3_nextToken_144 : decode cX3_nextToken 144 = .ok (.bipush 59, 2) := by decide +kernel
theorem dX3_nextToken_146 : decode cX3_nextToken 146 = .ok (.if_icmp .ne 7, 3) := by decide +kernel
theorem dX3_nextToken_149 : decode cX3_nextToken 149 = .ok (.iconst 3, 1) := by decide +kernel
theorem dX3_nextToken_150 : decode cX3_nextToken 150 = .ok (.goto 4, 3) := by decide +kernel
theorem dX3_nextToken_153 : decode cX3_nextToken 153 = .ok (.iconst 4, 1) := by decide +kernel
theorem dX3_nextToken_154 : decode cX3_nextToken 154 = .ok (.putfield 19, 3) := by decide +kernel
theorem dX3_nextToken_157 : decode cX3_nextToken 157 = .ok (.return_, 1) := by decide +kernel
theorem dX3_endOfRun_0 : decode cX3_endOfRun 0 = .ok (.iload_n 1, 1) := by decide +kernel
theorem dX3_endOfRun_1 : decode cX3_endOfRun 1 = .ok (.istore 4, 2) := by decide +kernel
theorem dX3_endOfRun_3 : decode cX3_endOfRun 3 = .ok (.iload 4, 2) := by decide +kernel
theorem dX3_endOfRun_5 : decode cX3_endOfRun 5 = .ok (.aload_n 0, 1) := by decide +kernel
theorem dX3_endOfRun_6 : decode cX3_endOfRun 6 = .ok (.getfield 15, 3) := by decide +kernel
theorem dX3_endOfRun_9 : decode cX3_endOfRun 9 = .ok (.if_icmp .ge 31, 3) := by decide +kernel
theorem dX3_endOfRun_12 : decode cX3_endOfRun 12 = .ok (.aload_n 0, 1) := by decide +kernel
theorem dX3_endOfRun_13 : decode cX3_endOfRun 13 = .ok (.getfield 9, 3) := by decide +kernel
theorem dX3_endOfRun_16 : decode cX3_endOfRun 16 = .ok (.iload 4, 2) := by decide +kernel
theorem dX3_endOfRun_18 : decode cX3_endOfRun 18 = .ok (.baload, 1) := by decide +kernel
theorem dX3_endOfRun_19 : decode cX3_endOfRun 19 = .ok (.iload_n 2, 1) := by decide +kernel
theorem dX3_endOfRun_20 : decode cX3_endOfRun 20 = .ok (.if_icmp .lt 20, 3) := by decide +kernel
theorem dX3_endOfRun_23 : decode cX3_endOfRun 23 = .ok (.aload_n 0, 1) := by decide +kernel
theorem dX3_endOfRun_24 : decode cX3_endOfRun 24 = .ok (.getfield 9, 3) := by decide +kernel
theorem dX3_endOfRun_27 : decode cX3_endOfRun 27 = .ok (.iload 4, 2) := by decide +kernel
theorem dX3_endOfRun_29 : decode cX3_endOfRun 29 = .ok (.baload, 1) := by decide +kernel
theorem dX3_endOfRun_30 : decode cX3_endOfRun 30 = .ok (.iload_n 3, 1) := by decide +kernel
theorem dX3_endOfRun_31 : decode cX3_endOfRun 31 = .ok (.if_icmp .gt 9, 3) := by decide +kernel
theorem dX3_endOfRun_34 : decode cX3_endOfRun 34 = .ok (.iinc 4 1, 3) := by decide +kernel
theorem dX3_endOfRun_37 : decode cX3_endOfRun 37 = .ok (.goto (-34), 3) := by decide +kernel
theorem dX3_endOfRun_40 : decode cX3_endOfRun 40 = .ok (.iload 4, 2) := by decide +kernel
theorem dX3_endOfRun_42 : decode cX3_endOfRun 42 = .ok (.ireturn, 1) := by decide +kernel
set_option maxRecDepth 20000 in
theorem ggX3_tokenIs_J0_length_8abf5 : GoodIn wsX3_tokenIs wsJ0_length_8abf5 := goodIn_r _ [8, 9, 10, 11, 12, 7, 13, 14, 15] (by decide +kernel) (by decide +kernel)
set_option maxRecDepth 20000 in
theorem gX3_tokenIs_J0_length_8abf5 : GoodIn wsX3_tokenIs (wsV RX3 32 RJ0 yJ0_length_8abf5 wsJ0_length_8abf5) := goodIn_app (goodIn_of _ (by decide +kernel)) ggX3_tokenIs_J0_length_8abf5
set_option maxRecDepth 20000 in
theorem ggX3_tokenIs_J0_charAt_5068e : GoodIn wsX3_tokenIs wsJ0_charAt_5068e := goodIn_r _ [19, 9, 20, 21, 22, 7, 23, 14, 15, 24, 25, 26, 27, 28, 29, 30, 31, 32, 33, 34, 35, 36, 37, 38, 39, 40, 41, 42, 43, 44, 45, 46, 47, 48, 49, 50, 51, 52] (by decide +kernel) (by decide +kernel)
set_option maxRecDepth 20000 in
theorem gX3_tokenIs_J0_charAt_5068e : GoodIn wsX3_tokenIs (wsV RX3 38 RJ0 yJ0_charAt_5068e wsJ0_charAt_5068e) := goodIn_app (goodIn_of _ (by decide +kernel)) ggX3_tokenIs_J0_charAt_5068e
theorem dX3_tokenIs_0 : decode cX3_tokenIs 0 = .ok (.aload_n 1, 1) := by decide +kernel
theorem dX3_tokenIs_1 : decode cX3_tokenIs 1 = .ok (.invokevirtual 32, 3) := by decide +kernel
theorem dX3_tokenIs_4 : decode cX3_tokenIs 4 = .ok (.istore_n 2, 1) := by decide +kernel
theorem dX3_tokenIs_5 : decode cX3_tokenIs 5 = .ok (.aload_n 0, 1) := by decide +kernel
theorem dX3_tokenIs_6 : decode cX3_tokenIs 6 = .ok (.getfield 25, 3) := by decide +kernel
theorem dX3_tokenIs_9 : decode cX3_tokenIs 9 = .ok (.aload_n 0, 1) := by decide +kernel
theorem dX3_tokenIs_10 : decode cX3_tokenIs 10 = .ok (.getfield 22, 3) := by decide +kernel
theorem dX3_tokenIs_13 : decode cX3_tokenIs 13 = .ok (.isub, 1) := by decide +kernel
theorem dX3_tokenIs_14 : decode cX3_tokenIs 14 = .ok (.iload_n 2, 1) := by decide +kernel
theorem dX3_tokenIs_15 : decode cX3_tokenIs 15 = .ok (.if_icmp .eq 5, 3) := by decide +kernel
theorem dX3_tokenIs_18 : decode cX3_tokenIs 18 = .ok (.iconst 0, 1) := by decide +kernel
theorem dX3_tokenIs_19 : decode cX3_tokenIs 19 = .ok (.ireturn, 1) := by decide +kernel
theorem dX3_tokenIs_20 : decode cX3_tokenIs 20 = .ok (.iconst 0, 1) := by decide +kernel
theorem dX3_tokenIs_21 : decode cX3_tokenIs 21 = .ok (.istore_n 3, 1) := by decide +kernel
theorem dX3_tokenIs_22 : decode cX3_tokenIs 22 = .ok (.iload_n 3, 1) := by decide +kernel
theorem dX3_tokenIs_23 : decode cX3_tokenIs 23 = .ok (.iload_n 2, 1) := by decide +kernel
theorem dX3_tokenIs_24 : decode cX3_tokenIs 24 = .ok (.if_icmp .ge 30, 3) := by decide +kernel
theorem dX3_tokenIs_27 : decode cX3_tokenIs 27 = .ok (.aload_n 0, 1) := by decide +kernel
theorem dX3_tokenIs_28 : decode cX3_tokenIs 28 = .ok (.getfield 9, 3) := by decide +kernel
theorem dX3_tokenIs_31 : decode cX3_tokenIs 31 = .ok (.aload_n 0, 1) := by decide +kernel
theorem dX3_tokenIs_32 : decode cX3_tokenIs 32 = .ok (.getfield 22, 3) := by decide +kernel
theorem dX3_tokenIs_35 : decode cX3_tokenIs 35 = .ok (.iload_n 3, 1) := by decide +kernel
theorem dX3_tokenIs_36 : decode cX3_tokenIs 36 = .ok (.iadd, 1) := by decide +kernel
theorem dX3_tokenIs_37 : decode cX3_tokenIs 37 = .ok (.baload, 1) := by decide +kernel
theorem dX3_tokenIs_38 : decode cX3_tokenIs 38 = .ok (.aload_n 1, 1) := by decide +kernel
theorem dX3_tokenIs_39 : decode cX3_tokenIs 39 = .ok (.iload_n 3, 1) := by decide +kernel
theorem dX3_tokenIs_40 : decode cX3_tokenIs 40 = .ok (.invokevirtual 38, 3) := by decide +kernel
theorem dX3_tokenIs_43 : decode cX3_tokenIs 43 = .ok (.if_icmp .eq 5, 3) := by decide +kernel
theorem dX3_tokenIs_46 : decode cX3_tokenIs 46 = .ok (.iconst 0, 1) := by decide +kernel
theorem dX3_tokenIs_47 : decode cX3_tokenIs 47 = .ok (.ireturn, 1) := by decide +kernel
theorem dX3_tokenIs_48 : decode cX3_tokenIs 48 = .ok (.iinc 3 1, 3) := by decide +kernel
theorem dX3_tokenIs_51 : decode cX3_tokenIs 51 = .ok (.goto (-29), 3) := by decide +kernel
theorem dX3_tokenIs_54 : decode cX3_tokenIs 54 = .ok (.iconst 1, 1) := by decide +kernel
theorem dX3_tokenIs_55 : decode cX3_tokenIs 55 = .ok (.ireturn, 1) := by decide +kernel
theorem dX3_numberOfToken_0 : decode cX3_numberOfToken 0 = .ok (.iconst 0, 1) := by decide +kernel
theorem dX3_numberOfToken_1 : decode cX3_numberOfToken 1 = .ok (.istore_n 1, 1) := by decide +kernel
theorem dX3_numberOfToken_2 : decode cX3_numberOfToken 2 = .ok (.aload_n 0, 1) := by decide +kernel
theorem dX3_numberOfToken_3 : decode cX3_numberOfToken 3 = .ok (.getfield 22, 3) := by decide +kernel
theorem dX3_numberOfToken_6 : decode cX3_numberOfToken 6 = .ok (.istore_n 2, 1) := by decide +kernel
theorem dX3_numberOfToken_7 : decode cX3_numberOfToken 7 = .ok (.iload_n 2, 1) := by decide +kernel
theorem dX3_numberOfToken_8 : decode cX3_numberOfToken 8 = .ok (.aload_n 0, 1) := by decide +kernel
theorem dX3_numberOfToken_9 : decode cX3_numberOfToken 9 = .ok (.getfield 25, 3) := by decide +kernel
theorem dX3_numberOfToken_12 : decode cX3_numberOfToken 12 = .ok (.if_icmp .ge 24, 3) := by decide +kernel
theorem dX3_numberOfToken_15 : decode cX3_numberOfToken 15 = .ok (.bipush 10, 2) := by decide +kernel
theorem dX3_numberOfToken_17 : decode cX3_numberOfToken 17 = .ok (.iload_n 1, 1) := by decide +kernel
theorem dX3_numberOfToken_18 : decode cX3_numberOfToken 18 = .ok (.imul, 1) := by decide +kernel
theorem dX3_numberOfToken_19 : decode cX3_numberOfToken 19 = .ok (.aload_n 0, 1) := by decide +kernel
theorem dX3_numberOfToken_20 : decode cX3_numberOfToken 20 = .ok (.getfield 9, 3) := by decide +kernel
theorem dX3_numberOfToken_23 : decode cX3_numberOfToken 23 = .ok (.iload_n 2, 1) := by decide +kernel
theorem dX3_numberOfToken_24 : decode cX3_numberOfToken 24 = .ok (.baload, 1) := by decide +kernel
theorem dX3_numberOfToken_25 : decode cX3_numberOfToken 25 = .ok (.iadd, 1) := by decide +kernel
theorem dX3_numberOfToken_26 : decode cX3_numberOfToken 26 = .ok (.bipush 48, 2) := by decide +kernel
theorem dX3_numberOfToken_28 : decode cX3_numberOfToken 28 = .ok (.isub, 1) := by decide +kernel
theorem dX3_numberOfToken_29 : decode cX3_numberOfToken 29 = .ok (.istore_n 1, 1) := by decide +kernel
theorem dX3_numberOfToken_30 : decode cX3_numberOfToken 30 = .ok (.iinc 2 1, 3) := by decide +kernel
theorem dX3_numberOfToken_33 : decode cX3_numberOfToken 33 = .ok (.goto (-26), 3) := by decide +kernel
theorem dX3_numberOfToken_36 : decode cX3_numberOfToken 36 = .ok (.iload_n 1, 1) := by decide +kernel
theorem dX3_numberOfToken_37 : decode cX3_numberOfToken 37 = .ok (.ireturn, 1) := by decide +kernel
set_option maxRecDepth 20000 in
theorem ggX4_init_X3_init : GoodIn wsX4_init wsX3_init := goodIn_r _ [17, 18, 2, 3, 19, 20, 21, 22, 23, 24, 39, 40, 41, 42, 43] (by decide +kernel) (by decide +kernel)
set_option maxRecDepth 20000 in
theorem gX4_init_X3_init_n11 : GoodIn wsX4_init (wsX3_init) := ggX4_init_X3_init
set_option maxRecDepth 20000 in
theorem ggX4_init_X0_init : GoodIn wsX4_init wsX0_init := goodIn_r _ [26, 27, 2, 3, 28, 29, 30, 31, 32, 33, 34, 35, 36, 37, 38, 50, 51, 52, 53, 54, 55, 56, 57, 58, 59] (by decide +kernel) (by decide +kernel)
set_option maxRecDepth 20000 in
theorem gX4_init_X0_init_n20 : GoodIn wsX4_init (wsX0_init) := ggX4_init_X0_init
theorem dX4_init_0 : decode cX4_init 0 = .ok (.aload_n 0, 1) := by decide +kernel
theorem dX4_init_1 : decode cX4_init 1 = .ok (.invokespecial 3, 3) := by decide +kernel
theorem dX4_init_4 : decode cX4_init 4 = .ok (.aload_n 0, 1) := by decide +kernel
theorem dX4_init_5 : decode cX4_init 5 = .ok (.new 9, 3) := by decide +kernel
theorem dX4_init_8 : decode cX4_init 8 = .ok (.dup, 1) := by decide +kernel
theorem dX4_init_9 : decode cX4_init 9 = .ok (.invokespecial 11, 3) := by decide +kernel
theorem dX4_init_12 : decode cX4_init 12 = .ok (.putfield 12, 3) := by decide +kernel
theorem dX4_init_15 : decode cX4_init 15 = .ok (.aload_n 0, 1) := by decide +kernel
theorem dX4_init_16 : decode cX4_init 16 = .ok (.new 18, 3) := by decide +kernel
theorem dX4_init_19 : decode cX4_init 19 = .ok (.dup, 1) := by decide +kernel
theorem dX4_init_20 : decode cX4_init 20 = .ok (.invokespecial 20, 3) := by decide +kernel
theorem dX4_init_23 : decode cX4_init 23 = .ok (.putfield 21, 3) := by decide +kernel
theorem dX4_init_26 : decode cX4_init 26 = .ok (.aload_n 0, 1) := by decide +kernel
theorem dX4_init_27 : decode cX4_init 27 = .ok (.iconst 0, 1) := by decide +kernel
theorem dX4_init_28 : decode cX4_init 28 = .ok (.putfield 25, 3) := by decide +kernel
theorem dX4_init_31 : decode cX4_init 31 = .ok (.aload_n 0, 1) := by decide +kernel
theorem dX4_init_32 : decode cX4_init 32 = .ok (.iconst 0, 1) := by decide +kernel
theorem dX4_init_33 : decode cX4_init 33 = .ok (.putfield 29, 3) := by decide +kernel
theorem dX4_init_36 : decode cX4_init 36 = .ok (.aload_n 0, 1) := by decide +kernel
theorem dX4_init_37 : decode cX4_init 37 = .ok (.iconst 0, 1) := by decide +kernel
theorem dX4_init_38 : decode cX4_init 38 = .ok (.putfield 33, 3) := by decide +kernel
theorem dX4_init_41 : decode cX4_init 41 = .ok (.aload_n 0, 1) := by decide +kernel
theorem dX4_init_42 : decode cX4_init 42 = .ok (.iconst 0, 1) := by decide +kernel
theorem dX4_init_43 : decode cX4_init 43 = .ok (.putfield 36, 3) := by decide +kernel
theorem dX4_init_46 : decode cX4_init 46 = .ok (.return_, 1) := by decide +kernel
set_option maxRecDepth 20000 in
theorem ggX4_readText_X3_rewind : GoodIn wsX4_readText wsX3_rewind := goodIn_r _ [12, 13, 155, 156, 157, 158, 159] (by decide +kernel) (by decide +kernel)
set_option maxRecDepth 20000 in
theorem gX4_readText_X3_rewind : GoodIn wsX4_readText (wsV RX4 39 RX3 yX3_rewind wsX3_rewind) := goodIn_app (goodIn_of _ (by decide +kernel)) ggX4_readText_X3_rewind
set_option maxRecDepth 20000 in
theorem ggX4_readText_X0_clear : GoodIn wsX4_readText wsX0_clear := goodIn_r _ [18, 19, 20, 21, 22, 23, 160, 161, 162, 163, 164, 165, 166, 167, 168, 169] (by decide +kernel) (by decide +kernel)
set_option maxRecDepth 20000 in
theorem gX4_readText_X0_clear : GoodIn wsX4_readText (wsV RX4 42 RX0 yX0_clear wsX0_clear) := goodIn_app (goodIn_of _ (by decide +kernel)) ggX4_readText_X0_clear
set_option maxRecDepth 20000 in
theorem ggX4_readText_X4_advance : GoodIn wsX4_readText wsX4_advance := goodIn_r _ [28, 5, 1, 7, 29, 30, 31, 11, 32, 13, 33, 34, 35, 36, 37, 38, 39, 40, 41, 42, 43, 27, 44, 45, 6, 149, 150, 151, 152, 153, 154, 155, 156, 157, 158, 159] (by decide +kernel) (by decide +kernel)
set_option maxRecDepth 20000 in
theorem gX4_readText_X4_advance : GoodIn wsX4_readText (wsV RX4 45 RX4 yX4_advance wsX4_advance) := goodIn_app (goodIn_of _ (by decide +kernel)) ggX4_readText_X4_advance
set_option maxRecDepth 20000 in
theorem ggX4_readText_X4_readLine : GoodIn wsX4_readText wsX4_readLine := goodIn_r _ [49, 5, 50, 51, 52, 27, 53, 1, 7, 54, 55, 56, 57, 58, 59, 11, 60, 13, 33, 36, 61, 62, 63, 64, 65, 66, 67, 68, 69, 70, 71, 72, 73, 74, 75, 76, 77, 78, 79, 80, 81, 82, 83, 84, 85, 86, 87, 88, 89, 90, 91, 92, 93, 94, 95, 96, 97, 98, 99, 100, 101, 102, 103, 104, 105, 106, 107, 108, 109, 110, 111, 112, 113, 3, 2, 114, 115, 41, 42, 43, 44, 45, 6, 116, 117, 118, 119, 24, 25, 26, 28, 29, 30, 31, 32, 34, 35, 37, 38, 39, 40, 120, 121, 122, 123, 124, 125, 126, 127, 128, 129, 130, 131, 132, 133, 134, 17, 135, 21, 22, 136, 137, 138, 139, 19, 140, 141, 142, 143, 144, 145, 20, 146, 147, 148, 149, 150, 151, 152, 153, 154, 155, 156, 157, 158, 159, 160, 161, 162, 163, 164, 165, 166, 167, 168, 169] (by decide +kernel) (by decide +kernel)
set_option maxRecDepth 20000 in
theorem gX4_readText_X4_readLine : GoodIn wsX4_readText (wsV RX4 51 RX4 yX4_readLine wsX4_readLine) := goodIn_app (goodIn_of _ (by decide +kernel)) ggX4_readText_X4_readLine
theorem dX4_readText_0 : decode cX4_readText 0 = .ok (.aload_n 0, 1) := by decide +kernel
theorem dX4_readText_1 : decode cX4_readText 1 = .ok (.getfield 12, 3) := by decide +kernel
theorem dX4_readText_4 : decode cX4_readText 4 = .ok (.invokevirtual 39, 3) := by decide +kernel
theorem dX4_readText_7 : decode cX4_readText 7 = .ok (.aload_n 0, 1) := by decide +kernel
theorem dX4_readText_8 : decode cX4_readText 8 = .ok (.getfield 21, 3) := by decide +kernel
theorem dX4_readText_11 : decode cX4_readText 11 = .ok (.invokevirtual 42, 3) := by decide +kernel
theorem dX4_readText_14 : decode cX4_readText 14 = .ok (.aload_n 0, 1) := by decide +kernel
theorem dX4_readText_15 : decode cX4_readText 15 = .ok (.iconst 0, 1) := by decide +kernel
theorem dX4_readText_16 : decode cX4_readText 16 = .ok (.putfield 25, 3) := by decide +kernel
theorem dX4_readText_19 : decode cX4_readText 19 = .ok (.aload_n 0, 1) := by decide +kernel
theorem dX4_readText_20 : decode cX4_readText 20 = .ok (.iconst 0, 1) := by decide +kernel
theorem dX4_readText_21 : decode cX4_readText 21 = .ok (.putfield 29, 3) := by decide +kernel
theorem dX4_readText_24 : decode cX4_readText 24 = .ok (.aload_n 0, 1) := by decide +kernel
theorem dX4_readText_25 : decode cX4_readText 25 = .ok (.iconst 0, 1) := by decide +kernel
theorem dX4_readText_26 : decode cX4_readText 26 = .ok (.putfield 33, 3) := by decide +kernel
theorem dX4_readText_29 : decode cX4_readText 29 = .ok (.aload_n 0, 1) := by decide +kernel
theorem dX4_readText_30 : decode cX4_readText 30 = .ok (.iconst 0, 1) := by decide +kernel
theorem dX4_readText_31 : decode cX4_readText 31 = .ok (.putfield 36, 3) := by decide +kernel
theorem dX4_readText_34 : decode cX4_readText 34 = .ok (.iconst 0, 1) := by decide +kernel
theorem dX4_readText_35 : decode cX4_readText 35 = .ok (.istore_n 1, 1) := by decide +kernel
theorem dX4_readText_36 : decode cX4_readText 36 = .ok (.iload_n 1, 1) := by decide +kernel
theorem dX4_readText_37 : decode cX4_readText 37 = .ok (.sipush 160, 3) := by decide +kernel
theorem dX4_readText_40 : decode cX4_readText 40 = .ok (.if_icmp .gt 53, 3) := by decide +kernel
theorem dX4_readText_43 : decode cX4_readText 43 = .ok (.aload_n 0, 1) := by decide +kernel
theorem dX4_readText_44 : decode cX4_readText 44 = .ok (.invokevirtual 45, 3) := by decide +kernel
theorem dX4_readText_47 : decode cX4_readText 47 = .ok (.aload_n 0, 1) := by decide +kernel
theorem dX4_readText_48 : decode cX4_readText 48 = .ok (.getfield 33, 3) := by decide +kernel
theorem dX4_readText_51 : decode cX4_readText 51 = .ok (.ifCond .ne 13, 3) := by decide +kernel
theorem dX4_readText_54 : decode cX4_readText 54 = .ok (.aload_n 0, 1) := by decide +kernel
theorem dX4_readText_55 : decode cX4_readText 55 = .ok (.getfield 12, 3) := by decide +kernel
theorem dX4_readText_58 : decode cX4_readText 58 = .ok (.getfield 48, 3) := by decide +kernel
theorem dX4_readText_61 : decode cX4_readText 61 = .ok (.ifCond .ne 4, 3) := by decide +kernel
theorem dX4_readText_64 : decode cX4_readText 64 = .ok (.return_, 1) := by decide +kernel
theorem dX4_readText_65 : decode cX4_readText 65 = .ok (.aload_n 0, 1) := by decide +kernel
theorem dX4_readText_66 : decode cX4_readText 66 = .ok (.invokevirtual 51, 3) := by decide +kernel
theorem dX4_readText_69 : decode cX4_readText 69 = .ok (.aload_n 0, 1) := by decide +kernel
theorem dX4_readText_70 : decode cX4_readText 70 = .ok (.getfield 33, 3) := by decide +kernel
theorem dX4_readText_73 : decode cX4_readText 73 = .ok (.ifCond .eq 4, 3) := by decide +kernel
theorem dX4_readText_76 : decode cX4_readText 76 = .ok (.return_, 1) := by decide +kernel
theorem dX4_readText_77 : decode cX4_readText 77 = .ok (.aload_n 0, 1) := by decide +kernel
theorem dX4_readText_78 : decode cX4_readText 78 = .ok (.dup, 1) := by decide +kernel
theorem dX4_readText_79 : decode cX4_readText 79 = .ok (.getfield 29, 3) := by decide +kernel
theorem dX4_readText_82 : decode cX4_readText 82 = .ok (.iconst 1, 1) := by decide +kernel
theorem dX4_readText_83 : decode cX4_readText 83 = .ok (.iadd, 1) := by decide +kernel
theorem dX4_readText_84 : decode cX4_readText 84 = .ok (.putfield 29, 3) := by decide +kernel
theorem dX4_readText_87 : decode cX4_readText 87 = .ok (.iinc 1 1, 3) := by decide +kernel
theorem dX4_readText_90 : decode cX4_readText 90 = .ok (.goto (-54), 3) := by decide +kernel
theorem dX4_readText_93 : decode cX4_readText 93 = .ok (.return_, 1) := by decide +kernel
set_option maxRecDepth 20000 in
theorem ggX4_readLine_X4_wordOfToken : GoodIn wsX4_readLine wsX4_wordOfToken := goodIn_r _ [6, 7, 8, 9, 10, 5, 11, 12, 13, 14, 15, 16, 17, 18, 19, 20, 21, 22, 23, 24, 25, 26, 27, 28, 29, 30, 31, 32, 33, 34, 35, 36, 37, 38, 39, 40, 41, 42, 43, 44, 45, 46, 47, 48, 49, 50, 51, 52, 53, 54, 55, 56, 57, 58, 59, 60, 61, 62, 63, 64, 65, 66, 67, 68, 135, 136, 137, 138, 139, 140, 141, 142, 143, 144, 145] (by decide +kernel) (by decide +kernel)
set_option maxRecDepth 20000 in
theorem gX4_readLine_X4_wordOfToken : GoodIn wsX4_readLine (wsV RX4 54 RX4 yX4_wordOfToken wsX4_wordOfToken) := goodIn_app (goodIn_of _ (by decide +kernel)) ggX4_readLine_X4_wordOfToken
set_option maxRecDepth 20000 in
theorem ggX4_readLine_X4_faultOfWord : GoodIn wsX4_readLine wsX4_faultOfWord := goodIn_r _ [72, 73, 74, 75, 76, 135, 136, 137, 138, 139, 140, 146, 147, 148, 149, 150, 151, 152, 153, 154, 155] (by decide +kernel) (by decide +kernel)
set_option maxRecDepth 20000 in
theorem gX4_readLine_X4_faultOfWord : GoodIn wsX4_readLine (wsV RX4 58 RX4 yX4_faultOfWord wsX4_faultOfWord) := goodIn_app (goodIn_of _ (by decide +kernel)) ggX4_readLine_X4_faultOfWord
set_option maxRecDepth 20000 in
theorem ggX4_readLine_X4_refuse : GoodIn wsX4_readLine wsX4_refuse := goodIn_r _ [80, 1, 7, 81, 82, 135, 136, 137, 138, 139, 140, 141, 142, 143, 144, 145] (by decide +kernel) (by decide +kernel)
set_option maxRecDepth 20000 in
theorem gX4_readLine_X4_refuse : GoodIn wsX4_readLine (wsV RX4 62 RX4 yX4_refuse wsX4_refuse) := goodIn_app (goodIn_of _ (by decide +kernel)) ggX4_readLine_X4_refuse
set_option maxRecDepth 20000 in
theorem ggX4_readLine_X4_takeNumber : GoodIn wsX4_readLine wsX4_takeNumber := goodIn_r _ [86, 7, 8, 87, 88, 89, 5, 90, 1, 91, 92, 93, 15, 94, 17, 18, 95, 96, 19, 97, 98, 99, 100, 77, 78, 79, 80, 81, 82, 101, 102, 103, 104, 135, 136, 137, 138, 139, 140, 141, 142, 143, 144, 145] (by decide +kernel) (by decide +kernel)
set_option maxRecDepth 20000 in
theorem gX4_readLine_X4_takeNumber : GoodIn wsX4_readLine (wsV RX4 66 RX4 yX4_takeNumber wsX4_takeNumber) := goodIn_app (goodIn_of _ (by decide +kernel)) ggX4_readLine_X4_takeNumber
set_option maxRecDepth 20000 in
theorem ggX4_readLine_X4_takeSemicolon : GoodIn wsX4_readLine wsX4_takeSemicolon := goodIn_r _ [108, 7, 8, 87, 88, 89, 5, 90, 1, 91, 92, 93, 15, 94, 17, 18, 95, 96, 19, 97, 98, 99, 100, 77, 78, 79, 80, 81, 82, 135, 136, 137, 138, 139, 140, 141, 142, 143, 144, 145] (by decide +kernel) (by decide +kernel)
set_option maxRecDepth 20000 in
theorem gX4_readLine_X4_takeSemicolon : GoodIn wsX4_readLine (wsV RX4 70 RX4 yX4_takeSemicolon wsX4_takeSemicolon) := goodIn_app (goodIn_of _ (by decide +kernel)) ggX4_readLine_X4_takeSemicolon
set_option maxRecDepth 20000 in
theorem ggX4_readLine_X4_tell : GoodIn wsX4_readLine wsX4_tell := goodIn_r _ [112, 74, 73, 113, 114, 115, 116, 117, 118, 119, 120, 121, 122, 123, 124, 125, 126, 127, 128, 129, 130, 131, 132, 133, 134, 135, 136, 137, 138, 139, 140, 146, 147, 148, 149, 150, 151, 152, 153, 154, 155] (by decide +kernel) (by decide +kernel)
set_option maxRecDepth 20000 in
theorem gX4_readLine_X4_tell : GoodIn wsX4_readLine (wsV RX4 73 RX4 yX4_tell wsX4_tell) := goodIn_app (goodIn_of _ (by decide +kernel)) ggX4_readLine_X4_tell
theorem dX4_readLine_0 : decode cX4_readLine 0 = .ok (.aload_n 0, 1) := by decide +kernel
theorem dX4_readLine_1 : decode cX4_readLine 1 = .ok (.invokevirtual 54, 3) := by decide +kernel
theorem dX4_readLine_4 : decode cX4_readLine 4 = .ok (.istore_n 1, 1) := by decide +kernel
theorem dX4_readLine_5 : decode cX4_readLine 5 = .ok (.aload_n 0, 1) := by decide +kernel
theorem dX4_readLine_6 : decode cX4_readLine 6 = .ok (.aload_n 0, 1) := by decide +kernel
theorem dX4_readLine_7 : decode cX4_readLine 7 = .ok (.iload_n 1, 1) := by decide +kernel
theorem dX4_readLine_8 : decode cX4_readLine 8 = .ok (.invokevirtual 58, 3) := by decide +kernel
theorem dX4_readLine_11 : decode cX4_readLine 11 = .ok (.invokevirtual 62, 3) := by decide +kernel
theorem dX4_readLine_14 : decode cX4_readLine 14 = .ok (.iload_n 1, 1) := by decide +kernel
theorem dX4_readLine_15 : decode cX4_readLine 15 = .ok (.iconst 4, 1) := by decide +kernel
theorem dX4_readLine_16 : decode cX4_readLine 16 = .ok (.if_icmp .ge 7, 3) := by decide +kernel
theorem dX4_readLine_19 : decode cX4_readLine 19 = .ok (.iconst 1, 1) := by decide +kernel
theorem dX4_readLine_20 : decode cX4_readLine 20 = .ok (.goto 4, 3) := by decide +kernel
theorem dX4_readLine_23 : decode cX4_readLine 23 = .ok (.iconst 0, 1) := by decide +kernel
theorem dX4_readLine_24 : decode cX4_readLine 24 = .ok (.istore_n 2, 1) := by decide +kernel
theorem dX4_readLine_25 : decode cX4_readLine 25 = .ok (.iload_n 2, 1) := by decide +kernel
theorem dX4_readLine_26 : decode cX4_readLine 26 = .ok (.ifCond .eq 13, 3) := by decide +kernel
theorem dX4_readLine_29 : decode cX4_readLine 29 = .ok (.aload_n 0, 1) := by decide +kernel
theorem dX4_readLine_30 : decode cX4_readLine 30 = .ok (.iconst 1, 1) := by decide +kernel
theorem dX4_readLine_31 : decode cX4_readLine 31 = .ok (.bipush 9, 2) := by decide +kernel
theorem dX4_readLine_33 : decode cX4_readLine 33 = .ok (.invokevirtual 66, 3) := by decide +kernel
theorem dX4_readLine_36 : decode cX4_readLine 36 = .ok (.goto 10, 3) := by decide +kernel
theorem dX4_readLine_39 : decode cX4_readLine 39 = .ok (.aload_n 0, 1) := by decide +kernel
theorem dX4_readLine_40 : decode cX4_readLine 40 = .ok (.iconst 0, 1) := by decide +kernel
theorem dX4_readLine_41 : decode cX4_readLine 41 = .ok (.bipush 20, 2) := by decide +kernel
theorem dX4_readLine_43 : decode cX4_readLine 43 = .ok (.invokevirtual 66, 3) := by decide +kernel
theorem dX4_readLine_46 : decode cX4_readLine 46 = .ok (.istore_n 3, 1) := by decide +kernel
theorem dX4_readLine_47 : decode cX4_readLine 47 = .ok (.iload_n 2, 1) := by decide +kernel
theorem dX4_readLine_48 : decode cX4_readLine 48 = .ok (.ifCond .eq 7, 3) := by decide +kernel
theorem dX4_readLine_51 : decode cX4_readLine 51 = .ok (.iconst 0, 1) := by decide +kernel
theorem dX4_readLine_52 : decode cX4_readLine 52 = .ok (.goto 10, 3) := by decide +kernel
theorem dX4_readLine_55 : decode cX4_readLine 55 = .ok (.aload_n 0, 1) := by decide +kernel
theorem dX4_readLine_56 : decode cX4_readLine 56 = .ok (.iconst 0, 1) := by decide +kernel
theorem dX4_readLine_57 : decode cX4_readLine 57 = .ok (.bipush 20, 2) := by decide +kernel
theorem dX4_readLine_59 : decode cX4_readLine 59 = .ok (.invokevirtual 66, 3) := by decide +kernel
theorem dX4_readLine_62 : decode cX4_readLine 62 = .ok (.istore 4, 2) := by decide +kernel
theorem dX4_readLine_64 : decode cX4_readLine 64 = .ok (.aload_n 0, 1) := by decide +kernel
theorem dX4_readLine_65 : decode cX4_readLine 65 = .ok (.invokevirtual 70, 3) := by decide +kernel
theorem dX4_readLine_68 : decode cX4_readLine 68 = .ok (.aload_n 0, 1) := by decide +kernel
theorem dX4_readLine_69 : decode cX4_readLine 69 = .ok (.getfield 33, 3) := by decide +kernel
theorem dX4_readLine_72 : decode cX4_readLine 72 = .ok (.ifCond .ne 11, 3) := by decide +kernel
theorem dX4_readLine_75 : decode cX4_readLine 75 = .ok (.aload_n 0, 1) := by decide +kernel
theorem dX4_readLine_76 : decode cX4_readLine 76 = .ok (.iload_n 1, 1) := by decide +kernel
theorem dX4_readLine_77 : decode cX4_readLine 77 = .ok (.iload_n 3, 1) := by decide +kernel
theorem dX4_readLine_78 : decode cX4_readLine 78 = .ok (.iload 4, 2) := by decide +kernel
theorem dX4_readLine_80 : decode cX4_readLine 80 = .ok (.invokevirtual 73, 3) := by decide +kernel
theorem dX4_readLine_83 : decode cX4_readLine 83 = .ok (.return_, 1) := by decide +kernel
set_option maxRecDepth 20000 in
theorem ggX4_wordOfToken_X4_nameOf : GoodIn wsX4_wordOfToken wsX4_nameOf := goodIn_r _ [6] (by decide +kernel) (by decide +kernel)
set_option maxRecDepth 20000 in
theorem gX4_wordOfToken_X4_nameOf : GoodIn wsX4_wordOfToken (va_wsS RX4 77 yX4_nameOf wsX4_nameOf) := goodIn_app (goodIn_of _ (by decide +kernel)) ggX4_wordOfToken_X4_nameOf
set_option maxRecDepth 20000 in
theorem ggX4_wordOfToken_X3_tokenIs : GoodIn wsX4_wordOfToken wsX3_tokenIs := goodIn_r _ [11, 12, 13, 14, 15, 16, 17, 18, 19, 20, 21, 22, 23, 24, 25, 26, 27, 28, 29, 30, 31, 32, 33, 34, 35, 36, 37, 38, 39, 40, 41, 42, 43, 44, 45, 46, 47, 48, 49, 50, 51, 52, 53, 54, 55, 56, 57, 58, 59, 60, 61, 62, 63, 70, 71, 72, 73, 74] (by decide +kernel) (by decide +kernel)
set_option maxRecDepth 20000 in
theorem gX4_wordOfToken_X3_tokenIs : GoodIn wsX4_wordOfToken (wsV RX4 81 RX3 yX3_tokenIs wsX3_tokenIs) := goodIn_app (goodIn_of _ (by decide +kernel)) ggX4_wordOfToken_X3_tokenIs
theorem dX4_wordOfToken_0 : decode cX4_wordOfToken 0 = .ok (.iconst 0, 1) := by decide +kernel
theorem dX4_wordOfToken_1 : decode cX4_wordOfToken 1 = .ok (.istore_n 1, 1) := by decide +kernel
theorem dX4_wordOfToken_2 : decode cX4_wordOfToken 2 = .ok (.iload_n 1, 1) := by decide +kernel
theorem dX4_wordOfToken_3 : decode cX4_wordOfToken 3 = .ok (.bipush 6, 2) := by decide +kernel
theorem dX4_wordOfToken_5 : decode cX4_wordOfToken 5 = .ok (.if_icmp .ge 36, 3) := by decide +kernel
theorem dX4_wordOfToken_8 : decode cX4_wordOfToken 8 = .ok (.aload_n 0, 1) := by decide +kernel
theorem dX4_wordOfToken_9 : decode cX4_wordOfToken 9 = .ok (.getfield 12, 3) := by decide +kernel
theorem dX4_wordOfToken_12 : decode cX4_wordOfToken 12 = .ok (.getfield 48, 3) := by decide +kernel
theorem dX4_wordOfToken_15 : decode cX4_wordOfToken 15 = .ok (.iconst 1, 1) := by decide +kernel
theorem dX4_wordOfToken_16 : decode cX4_wordOfToken 16 = .ok (.if_icmp .ne 25, 3) := by decide +kernel
theorem dX4_wordOfToken_19 : decode cX4_wordOfToken 19 = .ok (.aload_n 0, 1) := by decide +kernel
theorem dX4_wordOfToken_20 : decode cX4_wordOfToken 20 = .ok (.getfield 12, 3) := by decide +kernel
theorem dX4_wordOfToken_23 : decode cX4_wordOfToken 23 = .ok (.iload_n 1, 1) := by decide +kernel
theorem dX4_wordOfToken_24 : decode cX4_wordOfToken 24 = .ok (.invokestatic 77, 3) := by decide +kernel
theorem dX4_wordOfToken_27 : decode cX4_wordOfToken 27 = .ok (.invokevirtual 81, 3) := by decide +kernel
theorem dX4_wordOfToken_30 : decode cX4_wordOfToken 30 = .ok (.ifCond .eq 5, 3) := by decide +kernel
theorem dX4_wordOfToken_33 : decode cX4_wordOfToken 33 = .ok (.iload_n 1, 1) := by decide +kernel
theorem dX4_wordOfToken_34 : decode cX4_wordOfToken 34 = .ok (.ireturn, 1) := by decide +kernel
theorem dX4_wordOfToken_35 : decode cX4_wordOfToken 35 = .ok (.iinc 1 1, 3) := by decide +kernel
theorem dX4_wordOfToken_38 : decode cX4_wordOfToken 38 = .ok (.goto (-36), 3) := by decide +kernel
theorem dX4_wordOfToken_41 : decode cX4_wordOfToken 41 = .ok (.bipush 6, 2) := by decide +kernel
theorem dX4_wordOfToken_43 : decode cX4_wordOfToken 43 = .ok (.ireturn, 1) := by decide +kernel
theorem dX4_nameOf_0 : decode cX4_nameOf 0 = .ok (.iload_n 0, 1) := by decide +kernel
theorem dX4_nameOf_1 : decode cX4_nameOf 1 = .ok (.tableswitch 50 0 4 #[35, 38, 41, 44, 47], 35) := by decide +kernel
theorem dX4_nameOf_36 : decode cX4_nameOf 36 = .ok (.ldc 85, 2) := by decide +kernel
theorem dX4_nameOf_38 : decode cX4_nameOf 38 = .ok (.areturn, 1) := by decide +kernel
theorem dX4_nameOf_39 : decode cX4_nameOf 39 = .ok (.ldc 87, 2) := by decide +kernel
theorem dX4_nameOf_41 : decode cX4_nameOf 41 = .ok (.areturn, 1) := by decide +kernel
theorem dX4_nameOf_42 : decode cX4_nameOf 42 = .ok (.ldc 89, 2) := by decide +kernel
theorem dX4_nameOf_44 : decode cX4_nameOf 44 = .ok (.areturn, 1) := by decide +kernel
theorem dX4_nameOf_45 : decode cX4_nameOf 45 = .ok (.ldc 91, 2) := by decide +kernel
theorem dX4_nameOf_47 : decode cX4_nameOf 47 = .ok (.areturn, 1) := by decide +kernel
theorem dX4_nameOf_48 : decode cX4_nameOf 48 = .ok (.ldc 93, 2) := by decide +kernel
theorem dX4_nameOf_50 : decode cX4_nameOf 50 = .ok (.areturn, 1) := by decide +kernel
theorem dX4_nameOf_51 : decode cX4_nameOf 51 = .ok (.ldc 95, 2) := by decide +kernel
theorem dX4_nameOf_53 : decode cX4_nameOf 53 = .ok (.areturn, 1) := by decide +kernel
theorem dX4_faultOfWord_0 : decode cX4_faultOfWord 0 = .ok (.iload_n 1, 1) := by decide +kernel
theorem dX4_faultOfWord_1 : decode cX4_faultOfWord 1 = .ok (.tableswitch 60 4 6 #[42, 29, 27], 27) := by decide +kernel
theorem dX4_faultOfWord_28 : decode cX4_faultOfWord 28 = .ok (.iconst 2, 1) := by decide +kernel
theorem dX4_faultOfWord_29 : decode cX4_faultOfWord 29 = .ok (.ireturn, 1) := by decide +kernel
theorem dX4_faultOfWord_30 : decode cX4_faultOfWord 30 = .ok (.aload_n 0, 1) := by decide +kernel
theorem dX4_faultOfWord_31 : decode cX4_faultOfWord 31 = .ok (.getfield 25, 3) := by decide +kernel
theorem dX4_faultOfWord_34 : decode cX4_faultOfWord 34 = .ok (.ifCond .eq 7, 3) := by decide +kernel
theorem dX4_faultOfWord_37 : decode cX4_faultOfWord 37 = .ok (.iconst 4, 1) := by decide +kernel
theorem dX4_faultOfWord_38 : decode cX4_faultOfWord 38 = .ok (.goto 4, 3) := by decide +kernel
theorem dX4_faultOfWord_41 : decode cX4_faultOfWord 41 = .ok (.iconst 0, 1) := by decide +kernel
theorem dX4_faultOfWord_42 : decode cX4_faultOfWord 42 = .ok (.ireturn, 1) := by decide +kernel
theorem dX4_faultOfWord_43 : decode cX4_faultOfWord 43 = .ok (.aload_n 0, 1) := by decide +kernel
theorem dX4_faultOfWord_44 : decode cX4_faultOfWord 44 = .ok (.getfield 21, 3) := by decide +kernel
theorem dX4_faultOfWord_47 : decode cX4_faultOfWord 47 = .ok (.getfield 97, 3) := by decide +kernel
theorem dX4_faultOfWord_50 : decode cX4_faultOfWord 50 = .ok (.bipush 10, 2) := by decide +kernel
theorem dX4_faultOfWord_52 : decode cX4_faultOfWord 52 = .ok (.if_icmp .lt 7, 3) := by decide +kernel
theorem dX4_faultOfWord_55 : decode cX4_faultOfWord 55 = .ok (.iconst 5, 1) := by decide +kernel
theorem dX4_faultOfWord_56 : decode cX4_faultOfWord 56 = .ok (.goto 4, 3) := by decide +kernel
theorem dX4_faultOfWord_59 : decode cX4_faultOfWord 59 = .ok (.iconst 0, 1) := by decide +kernel
theorem dX4_faultOfWord_60 : decode cX4_faultOfWord 60 = .ok (.ireturn, 1) := by decide +kernel
theorem dX4_faultOfWord_61 : decode cX4_faultOfWord 61 = .ok (.aload_n 0, 1) := by decide +kernel
theorem dX4_faultOfWord_62 : decode cX4_faultOfWord 62 = .ok (.getfield 21, 3) := by decide +kernel
theorem dX4_faultOfWord_65 : decode cX4_faultOfWord 65 = .ok (.getfield 100, 3) := by decide +kernel
theorem dX4_faultOfWord_68 : decode cX4_faultOfWord 68 = .ok (.iconst 4, 1) := by decide +kernel
theorem dX4_faultOfWord_69 : decode cX4_faultOfWord 69 = .ok (.if_icmp .lt 7, 3) := by decide +kernel
theorem dX4_faultOfWord_72 : decode cX4_faultOfWord 72 = .ok (.iconst 5, 1) := by decide +kernel
theorem dX4_faultOfWord_73 : decode cX4_faultOfWord 73 = .ok (.goto 4, 3) := by decide +kernel
theorem dX4_faultOfWord_76 : decode cX4_faultOfWord 76 = .ok (.iconst 0, 1) := by decide +kernel
theorem dX4_faultOfWord_77 : decode cX4_faultOfWord 77 = .ok (.ireturn, 1) := by decide +kernel
set_option maxRecDepth 20000 in
theorem ggX4_tell_X0_movePole : GoodIn wsX4_tell wsX0_movePole := goodIn_r _ [7, 8, 9, 31, 32, 33, 34, 35, 36, 37, 38, 39, 40] (by decide +kernel) (by decide +kernel)
set_option maxRecDepth 20000 in
theorem gX4_tell_X0_movePole : GoodIn wsX4_tell (wsV RX4 103 RX0 yX0_movePole wsX0_movePole) := goodIn_app (goodIn_of _ (by decide +kernel)) ggX4_tell_X0_movePole
set_option maxRecDepth 20000 in
theorem ggX4_tell_X0_appendCorner : GoodIn wsX4_tell wsX0_appendCorner := goodIn_r _ [13, 14, 15, 16, 31, 32, 33, 34, 35, 36, 37, 38, 39, 40] (by decide +kernel) (by decide +kernel)
set_option maxRecDepth 20000 in
theorem gX4_tell_X0_appendCorner : GoodIn wsX4_tell (wsV RX4 107 RX0 yX0_appendCorner wsX0_appendCorner) := goodIn_app (goodIn_of _ (by decide +kernel)) ggX4_tell_X0_appendCorner
set_option maxRecDepth 20000 in
theorem ggX4_tell_X0_appendWheel : GoodIn wsX4_tell wsX0_appendWheel := goodIn_r _ [20, 21, 22, 23, 24, 31, 32, 33, 34, 35, 36, 37, 38, 39, 40] (by decide +kernel) (by decide +kernel)
set_option maxRecDepth 20000 in
theorem gX4_tell_X0_appendWheel : GoodIn wsX4_tell (wsV RX4 110 RX0 yX0_appendWheel wsX0_appendWheel) := goodIn_app (goodIn_of _ (by decide +kernel)) ggX4_tell_X0_appendWheel
theorem dX4_tell_0 : decode cX4_tell 0 = .ok (.iload_n 1, 1) := by decide +kernel
theorem dX4_tell_1 : decode cX4_tell 1 = .ok (.lookupswitch 56 #[(4, 44), (5, 27)], 27) := by decide +kernel
theorem dX4_tell_28 : decode cX4_tell 28 = .ok (.aload_n 0, 1) := by decide +kernel
theorem dX4_tell_29 : decode cX4_tell 29 = .ok (.getfield 21, 3) := by decide +kernel
theorem dX4_tell_32 : decode cX4_tell 32 = .ok (.iload_n 2, 1) := by decide +kernel
theorem dX4_tell_33 : decode cX4_tell 33 = .ok (.iload_n 3, 1) := by decide +kernel
theorem dX4_tell_34 : decode cX4_tell 34 = .ok (.invokevirtual 103, 3) := by decide +kernel
theorem dX4_tell_37 : decode cX4_tell 37 = .ok (.aload_n 0, 1) := by decide +kernel
theorem dX4_tell_38 : decode cX4_tell 38 = .ok (.iconst 1, 1) := by decide +kernel
theorem dX4_tell_39 : decode cX4_tell 39 = .ok (.putfield 25, 3) := by decide +kernel
theorem dX4_tell_42 : decode cX4_tell 42 = .ok (.goto 24, 3) := by decide +kernel
theorem dX4_tell_45 : decode cX4_tell 45 = .ok (.aload_n 0, 1) := by decide +kernel
theorem dX4_tell_46 : decode cX4_tell 46 = .ok (.getfield 21, 3) := by decide +kernel
theorem dX4_tell_49 : decode cX4_tell 49 = .ok (.iload_n 2, 1) := by decide +kernel
theorem dX4_tell_50 : decode cX4_tell 50 = .ok (.iload_n 3, 1) := by decide +kernel
theorem dX4_tell_51 : decode cX4_tell 51 = .ok (.invokevirtual 107, 3) := by decide +kernel
theorem dX4_tell_54 : decode cX4_tell 54 = .ok (.goto 12, 3) := by decide +kernel
theorem dX4_tell_57 : decode cX4_tell 57 = .ok (.aload_n 0, 1) := by decide +kernel
theorem dX4_tell_58 : decode cX4_tell 58 = .ok (.getfield 21, 3) := by decide +kernel
theorem dX4_tell_61 : decode cX4_tell 61 = .ok (.iload_n 1, 1) := by decide +kernel
theorem dX4_tell_62 : decode cX4_tell 62 = .ok (.iload_n 2, 1) := by decide +kernel
theorem dX4_tell_63 : decode cX4_tell 63 = .ok (.invokevirtual 110, 3) := by decide +kernel
theorem dX4_tell_66 : decode cX4_tell 66 = .ok (.return_, 1) := by decide +kernel
set_option maxRecDepth 20000 in
theorem ggX4_takeNumber_X4_advance : GoodIn wsX4_takeNumber wsX4_advance := goodIn_r _ [7, 8, 1, 2, 9, 10, 11, 12, 13, 14, 15, 16, 17, 18, 19, 20, 21, 22, 23, 24, 25, 6, 26, 27, 28, 33, 34, 35, 36, 37, 38, 39, 40, 41, 42, 43] (by decide +kernel) (by decide +kernel)
set_option maxRecDepth 20000 in
theorem gX4_takeNumber_X4_advance : GoodIn wsX4_takeNumber (wsV RX4 45 RX4 yX4_advance wsX4_advance) := goodIn_app (goodIn_of _ (by decide +kernel)) ggX4_takeNumber_X4_advance
set_option maxRecDepth 20000 in
theorem ggX4_takeNumber_X4_refuse : GoodIn wsX4_takeNumber wsX4_refuse := goodIn_r _ [26, 8, 1, 27, 28, 33, 34, 35, 36, 37, 38, 39, 40, 41, 42, 43] (by decide +kernel) (by decide +kernel)
set_option maxRecDepth 20000 in
theorem gX4_takeNumber_X4_refuse : GoodIn wsX4_takeNumber (wsV RX4 62 RX4 yX4_refuse wsX4_refuse) := goodIn_app (goodIn_of _ (by decide +kernel)) ggX4_takeNumber_X4_refuse
set_option maxRecDepth 20000 in
theorem ggX4_takeNumber_X3_numberOfToken : GoodIn wsX4_takeNumber wsX3_numberOfToken := goodIn_r _ [32, 15, 14, 18, 39, 40, 41, 42, 43] (by decide +kernel) (by decide +kernel)
set_option maxRecDepth 20000 in
theorem gX4_takeNumber_X3_numberOfToken : GoodIn wsX4_takeNumber (wsV RX4 113 RX3 yX3_numberOfToken wsX3_numberOfToken) := goodIn_app (goodIn_of _ (by decide +kernel)) ggX4_takeNumber_X3_numberOfToken
theorem dX4_takeNumber_0 : decode cX4_takeNumber 0 = .ok (.aload_n 0, 1) := by decide +kernel
theorem dX4_takeNumber_1 : decode cX4_takeNumber 1 = .ok (.invokevirtual 45, 3) := by decide +kernel
theorem dX4_takeNumber_4 : decode cX4_takeNumber 4 = .ok (.aload_n 0, 1) := by decide +kernel
theorem dX4_takeNumber_5 : decode cX4_takeNumber 5 = .ok (.getfield 12, 3) := by decide +kernel
theorem dX4_takeNumber_8 : decode cX4_takeNumber 8 = .ok (.getfield 48, 3) := by decide +kernel
theorem dX4_takeNumber_11 : decode cX4_takeNumber 11 = .ok (.iconst 2, 1) := by decide +kernel
theorem dX4_takeNumber_12 : decode cX4_takeNumber 12 = .ok (.if_icmp .eq 10, 3) := by decide +kernel
theorem dX4_takeNumber_15 : decode cX4_takeNumber 15 = .ok (.aload_n 0, 1) := by decide +kernel
theorem dX4_takeNumber_16 : decode cX4_takeNumber 16 = .ok (.iconst 2, 1) := by decide +kernel
theorem dX4_takeNumber_17 : decode cX4_takeNumber 17 = .ok (.invokevirtual 62, 3) := by decide +kernel
theorem dX4_takeNumber_20 : decode cX4_takeNumber 20 = .ok (.iload_n 1, 1) := by decide +kernel
theorem dX4_takeNumber_21 : decode cX4_takeNumber 21 = .ok (.ireturn, 1) := by decide +kernel
theorem dX4_takeNumber_22 : decode cX4_takeNumber 22 = .ok (.aload_n 0, 1) := by decide +kernel
theorem dX4_takeNumber_23 : decode cX4_takeNumber 23 = .ok (.getfield 12, 3) := by decide +kernel
theorem dX4_takeNumber_26 : decode cX4_takeNumber 26 = .ok (.invokevirtual 113, 3) := by decide +kernel
theorem dX4_takeNumber_29 : decode cX4_takeNumber 29 = .ok (.istore_n 3, 1) := by decide +kernel
theorem dX4_takeNumber_30 : decode cX4_takeNumber 30 = .ok (.iload_n 3, 1) := by decide +kernel
theorem dX4_takeNumber_31 : decode cX4_takeNumber 31 = .ok (.iload_n 1, 1) := by decide +kernel
theorem dX4_takeNumber_32 : decode cX4_takeNumber 32 = .ok (.if_icmp .lt 8, 3) := by decide +kernel
theorem dX4_takeNumber_35 : decode cX4_takeNumber 35 = .ok (.iload_n 3, 1) := by decide +kernel
theorem dX4_takeNumber_36 : decode cX4_takeNumber 36 = .ok (.iload_n 2, 1) := by decide +kernel
theorem dX4_takeNumber_37 : decode cX4_takeNumber 37 = .ok (.if_icmp .le 8, 3) := by decide +kernel
theorem dX4_takeNumber_40 : decode cX4_takeNumber 40 = .ok (.aload_n 0, 1) := by decide +kernel
theorem dX4_takeNumber_41 : decode cX4_takeNumber 41 = .ok (.iconst 3, 1) := by decide +kernel
theorem dX4_takeNumber_42 : decode cX4_takeNumber 42 = .ok (.invokevirtual 62, 3) := by decide +kernel
theorem dX4_takeNumber_45 : decode cX4_takeNumber 45 = .ok (.iload_n 3, 1) := by decide +kernel
theorem dX4_takeNumber_46 : decode cX4_takeNumber 46 = .ok (.ireturn, 1) := by decide +kernel
set_option maxRecDepth 20000 in
theorem ggX4_takeSemicolon_X4_advance : GoodIn wsX4_takeSemicolon wsX4_advance := goodIn_r _ [7, 8, 1, 2, 9, 10, 11, 12, 13, 14, 15, 16, 17, 18, 19, 20, 21, 22, 23, 24, 25, 6, 26, 27, 28, 29, 30, 31, 32, 33, 34, 35, 36, 37, 38, 39] (by decide +kernel) (by decide +kernel)
set_option maxRecDepth 20000 in
theorem gX4_takeSemicolon_X4_advance : GoodIn wsX4_takeSemicolon (wsV RX4 45 RX4 yX4_advance wsX4_advance) := goodIn_app (goodIn_of _ (by decide +kernel)) ggX4_takeSemicolon_X4_advance
set_option maxRecDepth 20000 in
theorem ggX4_takeSemicolon_X4_refuse : GoodIn wsX4_takeSemicolon wsX4_refuse := goodIn_r _ [26, 8, 1, 27, 28, 29, 30, 31, 32, 33, 34, 35, 36, 37, 38, 39] (by decide +kernel) (by decide +kernel)
set_option maxRecDepth 20000 in
theorem gX4_takeSemicolon_X4_refuse : GoodIn wsX4_takeSemicolon (wsV RX4 62 RX4 yX4_refuse wsX4_refuse) := goodIn_app (goodIn_of _ (by decide +kernel)) ggX4_takeSemicolon_X4_refuse
theorem dX4_takeSemicolon_0 : decode cX4_takeSemicolon 0 = .ok (.aload_n 0, 1) := by decide +kernel
theorem dX4_takeSemicolon_1 : decode cX4_takeSemicolon 1 = .ok (.invokevirtual 45, 3) := by decide +kernel
theorem dX4_takeSemicolon_4 : decode cX4_takeSemicolon 4 = .ok (.aload_n 0, 1) := by decide +kernel
theorem dX4_takeSemicolon_5 : decode cX4_takeSemicolon 5 = .ok (.getfield 12, 3) := by decide +kernel
theorem dX4_takeSemicolon_8 : decode cX4_takeSemicolon 8 = .ok (.getfield 48, 3) := by decide +kernel
theorem dX4_takeSemicolon_11 : decode cX4_takeSemicolon 11 = .ok (.iconst 3, 1) := by decide +kernel
theorem dX4_takeSemicolon_12 : decode cX4_takeSemicolon 12 = .ok (.if_icmp .eq 8, 3) := by decide +kernel
theorem dX4_takeSemicolon_15 : decode cX4_takeSemicolon 15 = .ok (.aload_n 0, 1) := by decide +kernel
theorem dX4_takeSemicolon_16 : decode cX4_takeSemicolon 16 = .ok (.iconst 2, 1) := by decide +kernel
theorem dX4_takeSemicolon_17 : decode cX4_takeSemicolon 17 = .ok (.invokevirtual 62, 3) := by decide +kernel
theorem dX4_takeSemicolon_20 : decode cX4_takeSemicolon 20 = .ok (.return_, 1) := by decide +kernel
set_option maxRecDepth 20000 in
theorem ggX4_advance_X3_nextToken : GoodIn wsX4_advance wsX3_nextToken := goodIn_r _ [8, 9, 10, 11, 12, 13, 14, 15, 16, 7, 17, 31, 32, 33, 34, 35] (by decide +kernel) (by decide +kernel)
set_option maxRecDepth 20000 in
theorem gX4_advance_X3_nextToken : GoodIn wsX4_advance (wsV RX4 116 RX3 yX3_nextToken wsX3_nextToken) := goodIn_app (goodIn_of _ (by decide +kernel)) ggX4_advance_X3_nextToken
set_option maxRecDepth 20000 in
theorem ggX4_advance_X4_refuse : GoodIn wsX4_advance wsX4_refuse := goodIn_r _ [22, 1, 2, 23, 24, 25, 26, 27, 28, 29, 30, 31, 32, 33, 34, 35] (by decide +kernel) (by decide +kernel)
set_option maxRecDepth 20000 in
theorem gX4_advance_X4_refuse : GoodIn wsX4_advance (wsV RX4 62 RX4 yX4_refuse wsX4_refuse) := goodIn_app (goodIn_of _ (by decide +kernel)) ggX4_advance_X4_refuse
theorem dX4_advance_0 : decode cX4_advance 0 = .ok (.aload_n 0, 1) := by decide +kernel
theorem dX4_advance_1 : decode cX4_advance 1 = .ok (.getfield 33, 3) := by decide +kernel
theorem dX4_advance_4 : decode cX4_advance 4 = .ok (.ifCond .ne 30, 3) := by decide +kernel
theorem dX4_advance_7 : decode cX4_advance 7 = .ok (.aload_n 0, 1) := by decide +kernel
theorem dX4_advance_8 : decode cX4_advance 8 = .ok (.getfield 12, 3) := by decide +kernel
theorem dX4_advance_11 : decode cX4_advance 11 = .ok (.invokevirtual 116, 3) := by decide +kernel
theorem dX4_advance_14 : decode cX4_advance 14 = .ok (.aload_n 0, 1) := by decide +kernel
theorem dX4_advance_15 : decode cX4_advance 15 = .ok (.aload_n 0, 1) := by decide +kernel
theorem dX4_advance_16 : decode cX4_advance 16 = .ok (.getfield 12, 3) := by decide +kernel
theorem dX4_advance_19 : decode cX4_advance 19 = .ok (.getfield 48, 3) := by decide +kernel
theorem dX4_advance_22 : decode cX4_advance 22 = .ok (.iconst 4, 1) := by decide +kernel
theorem dX4_advance_23 : decode cX4_advance 23 = .ok (.if_icmp .ne 7, 3) := by decide +kernel
theorem dX4_advance_26 : decode cX4_advance 26 = .ok (.iconst 1, 1) := by decide +kernel
theorem dX4_advance_27 : decode cX4_advance 27 = .ok (.goto 4, 3) := by decide +kernel
theorem dX4_advance_30 : decode cX4_advance 30 = .ok (.iconst 0, 1) := by decide +kernel
theorem dX4_advance_31 : decode cX4_advance 31 = .ok (.invokevirtual 62, 3) := by decide +kernel
theorem dX4_advance_34 : decode cX4_advance 34 = .ok (.return_, 1) := by decide +kernel
theorem dX4_refuse_0 : decode cX4_refuse 0 = .ok (.aload_n 0, 1) := by decide +kernel
theorem dX4_refuse_1 : decode cX4_refuse 1 = .ok (.getfield 33, 3) := by decide +kernel
theorem dX4_refuse_4 : decode cX4_refuse 4 = .ok (.ifCond .ne 19, 3) := by decide +kernel
theorem dX4_refuse_7 : decode cX4_refuse 7 = .ok (.aload_n 0, 1) := by decide +kernel
theorem dX4_refuse_8 : decode cX4_refuse 8 = .ok (.iload_n 1, 1) := by decide +kernel
theorem dX4_refuse_9 : decode cX4_refuse 9 = .ok (.putfield 33, 3) := by decide +kernel
theorem dX4_refuse_12 : decode cX4_refuse 12 = .ok (.aload_n 0, 1) := by decide +kernel
theorem dX4_refuse_13 : decode cX4_refuse 13 = .ok (.aload_n 0, 1) := by decide +kernel
theorem dX4_refuse_14 : decode cX4_refuse 14 = .ok (.getfield 12, 3) := by decide +kernel
theorem dX4_refuse_17 : decode cX4_refuse 17 = .ok (.getfield 119, 3) := by decide +kernel
theorem dX4_refuse_20 : decode cX4_refuse 20 = .ok (.putfield 36, 3) := by decide +kernel
theorem dX4_refuse_23 : decode cX4_refuse 23 = .ok (.return_, 1) := by decide +kernel
