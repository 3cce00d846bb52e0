set_option maxRecDepth 20000 in
theorem ggX0_init_X1_least : GoodIn wsX0_init wsX1_least := goodIn_r _ [13, 14, 15, 16, 17, 18, 11, 19, 20, 21, 22] (by decide +kernel) (by decide +kernel)
set_option maxRecDepth 20000 in
theorem gX0_init_X1_least_n17 : GoodIn wsX0_init (wsX1_least) := ggX0_init_X1_least
set_option maxRecDepth 20000 in
theorem ggX0_init_X1_greatest : GoodIn wsX0_init wsX1_greatest := goodIn_r _ [25, 14, 15, 26, 16, 17, 18, 11, 19, 20, 21, 22] (by decide +kernel) (by decide +kernel)
set_option maxRecDepth 20000 in
theorem gX0_init_X1_greatest_n26 : GoodIn wsX0_init (wsX1_greatest) := ggX0_init_X1_greatest
theorem dX0_init_0 : decode cX0_init 0 = .ok (.aload_n 0, 1) := by decide +kernel
theorem dX0_init_1 : decode cX0_init 1 = .ok (.invokespecial 1, 3) := by decide +kernel
theorem dX0_init_4 : decode cX0_init 4 = .ok (.aload_n 0, 1) := by decide +kernel
theorem dX0_init_5 : decode cX0_init 5 = .ok (.aload_n 1, 1) := by decide +kernel
theorem dX0_init_6 : decode cX0_init 6 = .ok (.putfield 7, 3) := by decide +kernel
theorem dX0_init_9 : decode cX0_init 9 = .ok (.aload_n 0, 1) := by decide +kernel
theorem dX0_init_10 : decode cX0_init 10 = .ok (.lconst 0, 1) := by decide +kernel
theorem dX0_init_11 : decode cX0_init 11 = .ok (.putfield 13, 3) := by decide +kernel
theorem dX0_init_14 : decode cX0_init 14 = .ok (.aload_n 0, 1) := by decide +kernel
theorem dX0_init_15 : decode cX0_init 15 = .ok (.aload_n 1, 1) := by decide +kernel
theorem dX0_init_16 : decode cX0_init 16 = .ok (.invokevirtual 17, 3) := by decide +kernel
theorem dX0_init_19 : decode cX0_init 19 = .ok (.putfield 23, 3) := by decide +kernel
theorem dX0_init_22 : decode cX0_init 22 = .ok (.aload_n 0, 1) := by decide +kernel
theorem dX0_init_23 : decode cX0_init 23 = .ok (.aload_n 1, 1) := by decide +kernel
theorem dX0_init_24 : decode cX0_init 24 = .ok (.invokevirtual 26, 3) := by decide +kernel
theorem dX0_init_27 : decode cX0_init 27 = .ok (.putfield 29, 3) := by decide +kernel
theorem dX0_init_30 : decode cX0_init 30 = .ok (.aload_n 0, 1) := by decide +kernel
theorem dX0_init_31 : decode cX0_init 31 = .ok (.lconst 0, 1) := by decide +kernel
theorem dX0_init_32 : decode cX0_init 32 = .ok (.putfield 32, 3) := by decide +kernel
theorem dX0_init_35 : decode cX0_init 35 = .ok (.aload_n 0, 1) := by decide +kernel
theorem dX0_init_36 : decode cX0_init 36 = .ok (.lconst 0, 1) := by decide +kernel
theorem dX0_init_37 : decode cX0_init 37 = .ok (.putfield 35, 3) := by decide +kernel
theorem dX0_init_40 : decode cX0_init 40 = .ok (.return_, 1) := by decide +kernel
set_option maxRecDepth 20000 in
theorem ggX0_put_X1_fitted : GoodIn wsX0_put wsX1_fitted := goodIn_r _ [10, 11] (by decide +kernel) (by decide +kernel)
set_option maxRecDepth 20000 in
theorem gX0_put_X1_fitted_n38 : GoodIn wsX0_put (wsX1_fitted) := ggX0_put_X1_fitted
set_option maxRecDepth 20000 in
theorem ggX0_put_X1_isNumber : GoodIn wsX0_put wsX1_isNumber := goodIn_r _ [14, 15, 16, 17, 18, 8, 19, 20, 21, 22, 23, 24, 25, 26, 7, 9, 10, 11, 27, 28, 29, 30, 31, 32, 33] (by decide +kernel) (by decide +kernel)
set_option maxRecDepth 20000 in
theorem gX0_put_X1_isNumber_n42 : GoodIn wsX0_put (wsX1_isNumber) := ggX0_put_X1_isNumber
theorem dX0_put_0 : decode cX0_put 0 = .ok (.aload_n 0, 1) := by decide +kernel
theorem dX0_put_1 : decode cX0_put 1 = .ok (.getfield 7, 3) := by decide +kernel
theorem dX0_put_4 : decode cX0_put 4 = .ok (.lload_n 2, 1) := by decide +kernel
theorem dX0_put_5 : decode cX0_put 5 = .ok (.invokevirtual 38, 3) := by decide +kernel
theorem dX0_put_8 : decode cX0_put 8 = .ok (.lstore 4, 2) := by decide +kernel
theorem dX0_put_10 : decode cX0_put 10 = .ok (.aload_n 0, 1) := by decide +kernel
theorem dX0_put_11 : decode cX0_put 11 = .ok (.getfield 7, 3) := by decide +kernel
theorem dX0_put_14 : decode cX0_put 14 = .ok (.lload 4, 2) := by decide +kernel
theorem dX0_put_16 : decode cX0_put 16 = .ok (.invokevirtual 42, 3) := by decide +kernel
theorem dX0_put_19 : decode cX0_put 19 = .ok (.ifCond .ne 5, 3) := by decide +kernel
theorem dX0_put_22 : decode cX0_put 22 = .ok (.iconst 0, 1) := by decide +kernel
theorem dX0_put_23 : decode cX0_put 23 = .ok (.ireturn, 1) := by decide +kernel
theorem dX0_put_24 : decode cX0_put 24 = .ok (.iload_n 1, 1) := by decide +kernel
theorem dX0_put_25 : decode cX0_put 25 = .ok (.tableswitch 75 0 4 #[35, 43, 51, 59, 67], 35) := by decide +kernel
theorem dX0_put_60 : decode cX0_put 60 = .ok (.aload_n 0, 1) := by decide +kernel
theorem dX0_put_61 : decode cX0_put 61 = .ok (.lload 4, 2) := by decide +kernel
theorem dX0_put_63 : decode cX0_put 63 = .ok (.putfield 13, 3) := by decide +kernel
theorem dX0_put_66 : decode cX0_put 66 = .ok (.iconst 1, 1) := by decide +kernel
theorem dX0_put_67 : decode cX0_put 67 = .ok (.ireturn, 1) := by decide +kernel
theorem dX0_put_68 : decode cX0_put 68 = .ok (.aload_n 0, 1) := by decide +kernel
theorem dX0_put_69 : decode cX0_put 69 = .ok (.lload 4, 2) := by decide +kernel
theorem dX0_put_71 : decode cX0_put 71 = .ok (.putfield 23, 3) := by decide +kernel
theorem dX0_put_74 : decode cX0_put 74 = .ok (.iconst 1, 1) := by decide +kernel
theorem dX0_put_75 : decode cX0_put 75 = .ok (.ireturn, 1) := by decide +kernel
theorem dX0_put_76 : decode cX0_put 76 = .ok (.aload_n 0, 1) := by decide +kernel
theorem dX0_put_77 : decode cX0_put 77 = .ok (.lload 4, 2) := by decide +kernel
theorem dX0_put_79 : decode cX0_put 79 = .ok (.putfield 29, 3) := by decide +kernel
theorem dX0_put_82 : decode cX0_put 82 = .ok (.iconst 1, 1) := by decide +kernel
theorem dX0_put_83 : decode cX0_put 83 = .ok (.ireturn, 1) := by decide +kernel
theorem dX0_put_84 : decode cX0_put 84 = .ok (.aload_n 0, 1) := by decide +kernel
theorem dX0_put_85 : decode cX0_put 85 = .ok (.lload 4, 2) := by decide +kernel
theorem dX0_put_87 : decode cX0_put 87 = .ok (.putfield 32, 3) := by decide +kernel
theorem dX0_put_90 : decode cX0_put 90 = .ok (.iconst 1, 1) := by decide +kernel
theorem dX0_put_91 : decode cX0_put 91 = .ok (.ireturn, 1) := by decide +kernel
theorem dX0_put_92 : decode cX0_put 92 = .ok (.aload_n 0, 1) := by decide +kernel
theorem dX0_put_93 : decode cX0_put 93 = .ok (.lload 4, 2) := by decide +kernel
theorem dX0_put_95 : decode cX0_put 95 = .ok (.putfield 35, 3) := by decide +kernel
theorem dX0_put_98 : decode cX0_put 98 = .ok (.iconst 1, 1) := by decide +kernel
theorem dX0_put_99 : decode cX0_put 99 = .ok (.ireturn, 1) := by decide +kernel
theorem dX0_put_100 : decode cX0_put 100 = .ok (.iconst 0, 1) := by decide +kernel
theorem dX0_put_101 : decode cX0_put 101 = .ok (.ireturn, 1) := by decide +kernel
theorem dX0_number_0 : decode cX0_number 0 = .ok (.iload_n 1, 1) := by decide +kernel
theorem dX0_number_1 : decode cX0_number 1 = .ok (.tableswitch 60 0 4 #[35, 40, 45, 50, 55], 35) := by decide +kernel
theorem dX0_number_36 : decode cX0_number 36 = .ok (.aload_n 0, 1) := by decide +kernel
theorem dX0_number_37 : decode cX0_number 37 = .ok (.getfield 13, 3) := by decide +kernel
theorem dX0_number_40 : decode cX0_number 40 = .ok (.lreturn, 1) := by decide +kernel
theorem dX0_number_41 : decode cX0_number 41 = .ok (.aload_n 0, 1) := by decide +kernel
theorem dX0_number_42 : decode cX0_number 42 = .ok (.getfield 23, 3) := by decide +kernel
theorem dX0_number_45 : decode cX0_number 45 = .ok (.lreturn, 1) := by decide +kernel
theorem dX0_number_46 : decode cX0_number 46 = .ok (.aload_n 0, 1) := by decide +kernel
theorem dX0_number_47 : decode cX0_number 47 = .ok (.getfield 29, 3) := by decide +kernel
theorem dX0_number_50 : decode cX0_number 50 = .ok (.lreturn, 1) := by decide +kernel
theorem dX0_number_51 : decode cX0_number 51 = .ok (.aload_n 0, 1) := by decide +kernel
theorem dX0_number_52 : decode cX0_number 52 = .ok (.getfield 32, 3) := by decide +kernel
theorem dX0_number_55 : decode cX0_number 55 = .ok (.lreturn, 1) := by decide +kernel
theorem dX0_number_56 : decode cX0_number 56 = .ok (.aload_n 0, 1) := by decide +kernel
theorem dX0_number_57 : decode cX0_number 57 = .ok (.getfield 35, 3) := by decide +kernel
theorem dX0_number_60 : decode cX0_number 60 = .ok (.lreturn, 1) := by decide +kernel
theorem dX0_number_61 : decode cX0_number 61 = .ok (.lconst 0, 1) := by decide +kernel
theorem dX0_number_62 : decode cX0_number 62 = .ok (.lreturn, 1) := by decide +kernel
set_option maxRecDepth 20000 in
theorem ggX0_moveTo_X1_made : GoodIn wsX0_moveTo wsX1_made := goodIn_r _ [6, 7, 8, 9, 10, 11, 12, 13, 14, 15, 16, 17, 18, 19, 20, 4, 21, 22, 23, 24, 25, 26, 27, 28, 29, 30, 31, 32, 33, 34, 35, 36, 37, 38, 39, 40, 41, 42, 43, 44, 45, 46, 47, 48, 49, 50, 51, 52, 53, 54, 55, 56, 57, 58, 59, 60, 61, 62, 63, 64, 65, 66, 67, 68, 69, 70, 71, 72, 73, 74, 75, 76, 77, 78, 79, 80, 81, 82] (by decide +kernel) (by decide +kernel)
set_option maxRecDepth 20000 in
theorem gX0_moveTo_X1_made_n46 : GoodIn wsX0_moveTo (wsX1_made) := ggX0_moveTo_X1_made
theorem dX0_moveTo_0 : decode cX0_moveTo 0 = .ok (.aload_n 0, 1) := by decide +kernel
theorem dX0_moveTo_1 : decode cX0_moveTo 1 = .ok (.aload_n 0, 1) := by decide +kernel
theorem dX0_moveTo_2 : decode cX0_moveTo 2 = .ok (.getfield 7, 3) := by decide +kernel
theorem dX0_moveTo_5 : decode cX0_moveTo 5 = .ok (.aload_n 1, 1) := by decide +kernel
theorem dX0_moveTo_6 : decode cX0_moveTo 6 = .ok (.getfield 7, 3) := by decide +kernel
theorem dX0_moveTo_9 : decode cX0_moveTo 9 = .ok (.aload_n 1, 1) := by decide +kernel
theorem dX0_moveTo_10 : decode cX0_moveTo 10 = .ok (.getfield 13, 3) := by decide +kernel
theorem dX0_moveTo_13 : decode cX0_moveTo 13 = .ok (.invokevirtual 46, 3) := by decide +kernel
theorem dX0_moveTo_16 : decode cX0_moveTo 16 = .ok (.putfield 13, 3) := by decide +kernel
theorem dX0_moveTo_19 : decode cX0_moveTo 19 = .ok (.return_, 1) := by decide +kernel
set_option maxRecDepth 20000 in
theorem ggX0_obey_X1_lesser : GoodIn wsX0_obey wsX1_lesser := goodIn_r _ [9, 10, 11, 12, 7, 13, 14, 15, 16, 17, 18, 19, 20, 21, 22, 23, 24] (by decide +kernel) (by decide +kernel)
set_option maxRecDepth 20000 in
theorem gX0_obey_X1_lesser_n50 : GoodIn wsX0_obey (wsX1_lesser) := ggX0_obey_X1_lesser
set_option maxRecDepth 20000 in
theorem ggX0_obey_X1_greater : GoodIn wsX0_obey wsX1_greater := goodIn_r _ [27, 10, 11, 12, 7, 13, 14, 15, 16, 17, 18, 19, 20, 21, 22, 23, 24] (by decide +kernel) (by decide +kernel)
set_option maxRecDepth 20000 in
theorem gX0_obey_X1_greater_n54 : GoodIn wsX0_obey (wsX1_greater) := ggX0_obey_X1_greater
set_option maxRecDepth 20000 in
theorem ggX0_obey_X1_sized : GoodIn wsX0_obey wsX1_sized := goodIn_r _ [30, 18, 19, 20, 31, 32, 33, 34, 35, 36, 37, 7, 38, 39] (by decide +kernel) (by decide +kernel)
set_option maxRecDepth 20000 in
theorem gX0_obey_X1_sized_n57 : GoodIn wsX0_obey (wsX1_sized) := ggX0_obey_X1_sized
set_option maxRecDepth 20000 in
theorem ggX0_obey_X1_wholeBelow : GoodIn wsX0_obey wsX1_wholeBelow := goodIn_r _ [42, 18, 43, 28, 29, 7, 30, 19, 20, 31, 32, 33, 34, 35, 36, 37, 38, 39, 44, 45, 46, 47, 48, 49, 50, 51, 52, 53, 54, 55, 56, 57, 58, 59, 60, 61, 62, 63, 64, 65, 66, 67, 68] (by decide +kernel) (by decide +kernel)
set_option maxRecDepth 20000 in
theorem gX0_obey_X1_wholeBelow_n60 : GoodIn wsX0_obey (wsX1_wholeBelow) := ggX0_obey_X1_wholeBelow
set_option maxRecDepth 20000 in
theorem ggX0_obey_X1_wholeAbove : GoodIn wsX0_obey wsX1_wholeAbove := goodIn_r _ [71, 18, 43, 28, 29, 7, 30, 19, 20, 31, 32, 33, 34, 35, 36, 37, 38, 39, 61, 62, 63, 64, 48, 49, 50, 51, 52, 53, 54, 55, 56, 57, 58, 59, 60, 44, 45, 46, 47, 65, 66, 67, 68] (by decide +kernel) (by decide +kernel)
set_option maxRecDepth 20000 in
theorem gX0_obey_X1_wholeAbove_n63 : GoodIn wsX0_obey (wsX1_wholeAbove) := ggX0_obey_X1_wholeAbove
set_option maxRecDepth 20000 in
theorem ggX0_obey_X1_wholeNearest : GoodIn wsX0_obey wsX1_wholeNearest := goodIn_r _ [74, 18, 43, 28, 29, 7, 30, 19, 20, 31, 32, 33, 34, 35, 36, 37, 38, 39, 75, 76, 77, 78, 53, 48, 49, 50, 51, 52, 54, 55, 56, 57, 58, 59, 60, 79, 80, 81, 82, 83, 84, 65, 66, 67, 68] (by decide +kernel) (by decide +kernel)
set_option maxRecDepth 20000 in
theorem gX0_obey_X1_wholeNearest_n66 : GoodIn wsX0_obey (wsX1_wholeNearest) := ggX0_obey_X1_wholeNearest
set_option maxRecDepth 20000 in
theorem ggX0_obey_X0_look : GoodIn wsX0_obey wsX0_look := goodIn_r _ [89, 1, 4, 5, 28, 7, 29, 30, 18, 19, 20, 31, 32, 33, 34, 35, 36, 37, 38, 39, 49, 50, 51, 52, 53, 66, 67, 68, 43, 110, 111, 112, 113, 114, 115] (by decide +kernel) (by decide +kernel)
set_option maxRecDepth 20000 in
theorem gX0_obey_X0_look : GoodIn wsX0_obey (wsV RX0 69 RX0 yX0_look wsX0_look) := goodIn_app (goodIn_of _ (by decide +kernel)) ggX0_obey_X0_look
set_option maxRecDepth 20000 in
theorem ggX0_obey_X1_turned : GoodIn wsX0_obey wsX1_turned := goodIn_r _ [68, 18, 19, 43, 28, 29, 7, 30, 20, 31, 32, 33, 34, 35, 36, 37, 38, 39] (by decide +kernel) (by decide +kernel)
set_option maxRecDepth 20000 in
theorem gX0_obey_X1_turned_n72 : GoodIn wsX0_obey (wsX1_turned) := ggX0_obey_X1_turned
set_option maxRecDepth 20000 in
theorem ggX0_obey_X0_widen : GoodIn wsX0_obey wsX0_widen := goodIn_r _ [93, 1, 3, 4, 2, 25, 7, 26, 27, 10, 11, 12, 13, 14, 15, 16, 17, 18, 19, 20, 21, 22, 23, 24, 6, 8, 9, 110, 111, 112, 113, 114, 115] (by decide +kernel) (by decide +kernel)
set_option maxRecDepth 20000 in
theorem gX0_obey_X0_widen : GoodIn wsX0_obey (wsV RX0 75 RX0 yX0_widen wsX0_widen) := goodIn_app (goodIn_of _ (by decide +kernel)) ggX0_obey_X0_widen
set_option maxRecDepth 20000 in
theorem ggX0_obey_X0_rest : GoodIn wsX0_obey wsX0_rest := goodIn_r _ [97, 1, 4, 98, 28, 7, 29, 30, 18, 19, 20, 31, 32, 33, 34, 35, 36, 37, 38, 39, 99, 100, 101, 65, 66, 67, 68, 43, 110, 111, 112, 113, 114, 115] (by decide +kernel) (by decide +kernel)
set_option maxRecDepth 20000 in
theorem gX0_obey_X0_rest : GoodIn wsX0_obey (wsV RX0 78 RX0 yX0_rest wsX0_rest) := goodIn_app (goodIn_of _ (by decide +kernel)) ggX0_obey_X0_rest
set_option maxRecDepth 20000 in
theorem ggX0_obey_X0_grid : GoodIn wsX0_obey wsX0_grid := goodIn_r _ [105, 1, 4, 2, 3, 40, 7, 41, 42, 18, 43, 28, 29, 30, 19, 20, 31, 32, 33, 34, 35, 36, 37, 38, 39, 44, 45, 46, 47, 48, 49, 50, 51, 52, 53, 54, 55, 56, 57, 58, 59, 60, 61, 62, 63, 64, 65, 66, 67, 68, 69, 70, 71, 110, 111, 112, 113, 114, 115] (by decide +kernel) (by decide +kernel)
set_option maxRecDepth 20000 in
theorem gX0_obey_X0_grid : GoodIn wsX0_obey (wsV RX0 81 RX0 yX0_grid wsX0_grid) := goodIn_app (goodIn_of _ (by decide +kernel)) ggX0_obey_X0_grid
set_option maxRecDepth 20000 in
theorem ggX0_obey_X0_swap : GoodIn wsX0_obey wsX0_swap := goodIn_r _ [109, 2, 3, 110, 111, 112, 113, 114, 115] (by decide +kernel) (by decide +kernel)
set_option maxRecDepth 20000 in
theorem gX0_obey_X0_swap : GoodIn wsX0_obey (wsV RX0 84 RX0 yX0_swap wsX0_swap) := goodIn_app (goodIn_of _ (by decide +kernel)) ggX0_obey_X0_swap
theorem dX0_obey_0 : decode cX0_obey 0 = .ok (.iload_n 1, 1) := by decide +kernel
theorem dX0_obey_1 : decode cX0_obey 1 = .ok (.tableswitch 251 1 13 #[67, 100, 118, 136, 154, 172, 179, 201, 208, 215, 222, 229, 240], 67) := by decide +kernel
theorem dX0_obey_68 : decode cX0_obey 68 = .ok (.aload_n 0, 1) := by decide +kernel
theorem dX0_obey_69 : decode cX0_obey 69 = .ok (.aload_n 0, 1) := by decide +kernel
theorem dX0_obey_70 : decode cX0_obey 70 = .ok (.getfield 7, 3) := by decide +kernel
theorem dX0_obey_73 : decode cX0_obey 73 = .ok (.aload_n 0, 1) := by decide +kernel
theorem dX0_obey_74 : decode cX0_obey 74 = .ok (.getfield 23, 3) := by decide +kernel
theorem dX0_obey_77 : decode cX0_obey 77 = .ok (.aload_n 0, 1) := by decide +kernel
theorem dX0_obey_78 : decode cX0_obey 78 = .ok (.getfield 7, 3) := by decide +kernel
theorem dX0_obey_81 : decode cX0_obey 81 = .ok (.aload_n 0, 1) := by decide +kernel
theorem dX0_obey_82 : decode cX0_obey 82 = .ok (.getfield 29, 3) := by decide +kernel
theorem dX0_obey_85 : decode cX0_obey 85 = .ok (.aload_n 0, 1) := by decide +kernel
theorem dX0_obey_86 : decode cX0_obey 86 = .ok (.getfield 13, 3) := by decide +kernel
theorem dX0_obey_89 : decode cX0_obey 89 = .ok (.invokevirtual 50, 3) := by decide +kernel
theorem dX0_obey_92 : decode cX0_obey 92 = .ok (.invokevirtual 54, 3) := by decide +kernel
theorem dX0_obey_95 : decode cX0_obey 95 = .ok (.putfield 13, 3) := by decide +kernel
theorem dX0_obey_98 : decode cX0_obey 98 = .ok (.goto 154, 3) := by decide +kernel
theorem dX0_obey_101 : decode cX0_obey 101 = .ok (.aload_n 0, 1) := by decide +kernel
theorem dX0_obey_102 : decode cX0_obey 102 = .ok (.aload_n 0, 1) := by decide +kernel
theorem dX0_obey_103 : decode cX0_obey 103 = .ok (.getfield 7, 3) := by decide +kernel
theorem dX0_obey_106 : decode cX0_obey 106 = .ok (.aload_n 0, 1) := by decide +kernel
theorem dX0_obey_107 : decode cX0_obey 107 = .ok (.getfield 13, 3) := by decide +kernel
theorem dX0_obey_110 : decode cX0_obey 110 = .ok (.invokevirtual 57, 3) := by decide +kernel
theorem dX0_obey_113 : decode cX0_obey 113 = .ok (.putfield 13, 3) := by decide +kernel
theorem dX0_obey_116 : decode cX0_obey 116 = .ok (.goto 136, 3) := by decide +kernel
theorem dX0_obey_119 : decode cX0_obey 119 = .ok (.aload_n 0, 1) := by decide +kernel
theorem dX0_obey_120 : decode cX0_obey 120 = .ok (.aload_n 0, 1) := by decide +kernel
theorem dX0_obey_121 : decode cX0_obey 121 = .ok (.getfield 7, 3) := by decide +kernel
theorem dX0_obey_124 : decode cX0_obey 124 = .ok (.aload_n 0, 1) := by decide +kernel
theorem dX0_obey_125 : decode cX0_obey 125 = .ok (.getfield 13, 3) := by decide +kernel
theorem dX0_obey_128 : decode cX0_obey 128 = .ok (.invokevirtual 60, 3) := by decide +kernel
theorem dX0_obey_131 : decode cX0_obey 131 = .ok (.putfield 13, 3) := by decide +kernel
theorem dX0_obey_134 : decode cX0_obey 134 = .ok (.goto 118, 3) := by decide +kernel
theorem dX0_obey_137 : decode cX0_obey 137 = .ok (.aload_n 0, 1) := by decide +kernel
theorem dX0_obey_138 : decode cX0_obey 138 = .ok (.aload_n 0, 1) := by decide +kernel
theorem dX0_obey_139 : decode cX0_obey 139 = .ok (.getfield 7, 3) := by decide +kernel
theorem dX0_obey_142 : decode cX0_obey 142 = .ok (.aload_n 0, 1) := by decide +kernel
theorem dX0_obey_143 : decode cX0_obey 143 = .ok (.getfield 13, 3) := by decide +kernel
theorem dX0_obey_146 : decode cX0_obey 146 = .ok (.invokevirtual 63, 3) := by decide +kernel
theorem dX0_obey_149 : decode cX0_obey 149 = .ok (.putfield 13, 3) := by decide +kernel
theorem dX0_obey_152 : decode cX0_obey 152 = .ok (.goto 100, 3) := by decide +kernel
theorem dX0_obey_155 : decode cX0_obey 155 = .ok (.aload_n 0, 1) := by decide +kernel
theorem dX0_obey_156 : decode cX0_obey 156 = .ok (.aload_n 0, 1) := by decide +kernel
theorem dX0_obey_157 : decode cX0_obey 157 = .ok (.getfield 7, 3) := by decide +kernel
theorem dX0_obey_160 : decode cX0_obey 160 = .ok (.aload_n 0, 1) := by decide +kernel
theorem dX0_obey_161 : decode cX0_obey 161 = .ok (.getfield 13, 3) := by decide +kernel
theorem dX0_obey_164 : decode cX0_obey 164 = .ok (.invokevirtual 66, 3) := by decide +kernel
theorem dX0_obey_167 : decode cX0_obey 167 = .ok (.putfield 13, 3) := by decide +kernel
theorem dX0_obey_170 : decode cX0_obey 170 = .ok (.goto 82, 3) := by decide +kernel
theorem dX0_obey_173 : decode cX0_obey 173 = .ok (.aload_n 0, 1) := by decide +kernel
theorem dX0_obey_174 : decode cX0_obey 174 = .ok (.invokevirtual 69, 3) := by decide +kernel
theorem dX0_obey_177 : decode cX0_obey 177 = .ok (.goto 75, 3) := by decide +kernel
theorem dX0_obey_180 : decode cX0_obey 180 = .ok (.aload_n 0, 1) := by decide +kernel
theorem dX0_obey_181 : decode cX0_obey 181 = .ok (.aload_n 0, 1) := by decide +kernel
theorem dX0_obey_182 : decode cX0_obey 182 = .ok (.getfield 7, 3) := by decide +kernel
theorem dX0_obey_185 : decode cX0_obey 185 = .ok (.aload_n 0, 1) := by decide +kernel
theorem dX0_obey_186 : decode cX0_obey 186 = .ok (.getfield 13, 3) := by decide +kernel
theorem dX0_obey_189 : decode cX0_obey 189 = .ok (.aload_n 0, 1) := by decide +kernel
theorem dX0_obey_190 : decode cX0_obey 190 = .ok (.getfield 35, 3) := by decide +kernel
theorem dX0_obey_193 : decode cX0_obey 193 = .ok (.invokevirtual 72, 3) := by decide +kernel
theorem dX0_obey_196 : decode cX0_obey 196 = .ok (.putfield 13, 3) := by decide +kernel
theorem dX0_obey_199 : decode cX0_obey 199 = .ok (.goto 53, 3) := by decide +kernel
theorem dX0_obey_202 : decode cX0_obey 202 = .ok (.aload_n 0, 1) := by decide +kernel
theorem dX0_obey_203 : decode cX0_obey 203 = .ok (.invokevirtual 75, 3) := by decide +kernel
theorem dX0_obey_206 : decode cX0_obey 206 = .ok (.goto 46, 3) := by decide +kernel
theorem dX0_obey_209 : decode cX0_obey 209 = .ok (.aload_n 0, 1) := by decide +kernel
theorem dX0_obey_210 : decode cX0_obey 210 = .ok (.invokevirtual 78, 3) := by decide +kernel
theorem dX0_obey_213 : decode cX0_obey 213 = .ok (.goto 39, 3) := by decide +kernel
theorem dX0_obey_216 : decode cX0_obey 216 = .ok (.aload_n 0, 1) := by decide +kernel
theorem dX0_obey_217 : decode cX0_obey 217 = .ok (.invokevirtual 81, 3) := by decide +kernel
theorem dX0_obey_220 : decode cX0_obey 220 = .ok (.goto 32, 3) := by decide +kernel
theorem dX0_obey_223 : decode cX0_obey 223 = .ok (.aload_n 0, 1) := by decide +kernel
theorem dX0_obey_224 : decode cX0_obey 224 = .ok (.invokevirtual 84, 3) := by decide +kernel
theorem dX0_obey_227 : decode cX0_obey 227 = .ok (.goto 25, 3) := by decide +kernel
theorem dX0_obey_230 : decode cX0_obey 230 = .ok (.aload_n 0, 1) := by decide +kernel
theorem dX0_obey_231 : decode cX0_obey 231 = .ok (.aload_n 0, 1) := by decide +kernel
theorem dX0_obey_232 : decode cX0_obey 232 = .ok (.getfield 23, 3) := by decide +kernel
theorem dX0_obey_235 : decode cX0_obey 235 = .ok (.putfield 13, 3) := by decide +kernel
theorem dX0_obey_238 : decode cX0_obey 238 = .ok (.goto 14, 3) := by decide +kernel
theorem dX0_obey_241 : decode cX0_obey 241 = .ok (.aload_n 0, 1) := by decide +kernel
theorem dX0_obey_242 : decode cX0_obey 242 = .ok (.aload_n 0, 1) := by decide +kernel
theorem dX0_obey_243 : decode cX0_obey 243 = .ok (.getfield 29, 3) := by decide +kernel
theorem dX0_obey_246 : decode cX0_obey 246 = .ok (.putfield 13, 3) := by decide +kernel
theorem dX0_obey_249 : decode cX0_obey 249 = .ok (.goto 3, 3) := by decide +kernel
theorem dX0_obey_252 : decode cX0_obey 252 = .ok (.return_, 1) := by decide +kernel
set_option maxRecDepth 20000 in
theorem ggX0_look_X1_sized : GoodIn wsX0_look wsX1_sized := goodIn_r _ [7, 8, 9, 10, 11, 12, 13, 14, 15, 16, 17, 5, 18, 19] (by decide +kernel) (by decide +kernel)
set_option maxRecDepth 20000 in
theorem gX0_look_X1_sized_n57 : GoodIn wsX0_look (wsX1_sized) := ggX0_look_X1_sized
set_option maxRecDepth 20000 in
theorem ggX0_look_X1_one : GoodIn wsX0_look wsX1_one := goodIn_r _ [22, 8, 23, 24] (by decide +kernel) (by decide +kernel)
set_option maxRecDepth 20000 in
theorem gX0_look_X1_one_n87 : GoodIn wsX0_look (wsX1_one) := ggX0_look_X1_one
set_option maxRecDepth 20000 in
theorem ggX0_look_X1_turned : GoodIn wsX0_look wsX1_turned := goodIn_r _ [27, 8, 9, 28, 4, 6, 5, 7, 10, 11, 12, 13, 14, 15, 16, 17, 18, 19] (by decide +kernel) (by decide +kernel)
set_option maxRecDepth 20000 in
theorem gX0_look_X1_turned_n72 : GoodIn wsX0_look (wsX1_turned) := ggX0_look_X1_turned
theorem dX0_look_0 : decode cX0_look 0 = .ok (.aload_n 0, 1) := by decide +kernel
theorem dX0_look_1 : decode cX0_look 1 = .ok (.aload_n 0, 1) := by decide +kernel
theorem dX0_look_2 : decode cX0_look 2 = .ok (.getfield 7, 3) := by decide +kernel
theorem dX0_look_5 : decode cX0_look 5 = .ok (.aload_n 0, 1) := by decide +kernel
theorem dX0_look_6 : decode cX0_look 6 = .ok (.getfield 13, 3) := by decide +kernel
theorem dX0_look_9 : decode cX0_look 9 = .ok (.invokevirtual 57, 3) := by decide +kernel
theorem dX0_look_12 : decode cX0_look 12 = .ok (.lconst 0, 1) := by decide +kernel
theorem dX0_look_13 : decode cX0_look 13 = .ok (.lcmp, 1) := by decide +kernel
theorem dX0_look_14 : decode cX0_look 14 = .ok (.ifCond .ne 10, 3) := by decide +kernel
theorem dX0_look_17 : decode cX0_look 17 = .ok (.aload_n 0, 1) := by decide +kernel
theorem dX0_look_18 : decode cX0_look 18 = .ok (.getfield 13, 3) := by decide +kernel
theorem dX0_look_21 : decode cX0_look 21 = .ok (.goto 21, 3) := by decide +kernel
theorem dX0_look_24 : decode cX0_look 24 = .ok (.aload_n 0, 1) := by decide +kernel
theorem dX0_look_25 : decode cX0_look 25 = .ok (.getfield 7, 3) := by decide +kernel
theorem dX0_look_28 : decode cX0_look 28 = .ok (.aload_n 0, 1) := by decide +kernel
theorem dX0_look_29 : decode cX0_look 29 = .ok (.getfield 7, 3) := by decide +kernel
theorem dX0_look_32 : decode cX0_look 32 = .ok (.invokevirtual 87, 3) := by decide +kernel
theorem dX0_look_35 : decode cX0_look 35 = .ok (.aload_n 0, 1) := by decide +kernel
theorem dX0_look_36 : decode cX0_look 36 = .ok (.getfield 13, 3) := by decide +kernel
theorem dX0_look_39 : decode cX0_look 39 = .ok (.invokevirtual 72, 3) := by decide +kernel
theorem dX0_look_42 : decode cX0_look 42 = .ok (.putfield 35, 3) := by decide +kernel
theorem dX0_look_45 : decode cX0_look 45 = .ok (.return_, 1) := by decide +kernel
set_option maxRecDepth 20000 in
theorem ggX0_widen_X1_greater : GoodIn wsX0_widen wsX1_greater := goodIn_r _ [8, 9, 10, 11, 6, 12, 13, 14, 15, 16, 17, 18, 19, 20, 21, 22, 23] (by decide +kernel) (by decide +kernel)
set_option maxRecDepth 20000 in
theorem gX0_widen_X1_greater_n54 : GoodIn wsX0_widen (wsX1_greater) := ggX0_widen_X1_greater
set_option maxRecDepth 20000 in
theorem ggX0_widen_X1_lesser : GoodIn wsX0_widen wsX1_lesser := goodIn_r _ [26, 9, 10, 11, 6, 12, 13, 14, 15, 16, 17, 18, 19, 20, 21, 22, 23] (by decide +kernel) (by decide +kernel)
set_option maxRecDepth 20000 in
theorem gX0_widen_X1_lesser_n50 : GoodIn wsX0_widen (wsX1_lesser) := ggX0_widen_X1_lesser
theorem dX0_widen_0 : decode cX0_widen 0 = .ok (.aload_n 0, 1) := by decide +kernel
theorem dX0_widen_1 : decode cX0_widen 1 = .ok (.aload_n 0, 1) := by decide +kernel
theorem dX0_widen_2 : decode cX0_widen 2 = .ok (.getfield 7, 3) := by decide +kernel
theorem dX0_widen_5 : decode cX0_widen 5 = .ok (.aload_n 0, 1) := by decide +kernel
theorem dX0_widen_6 : decode cX0_widen 6 = .ok (.getfield 29, 3) := by decide +kernel
theorem dX0_widen_9 : decode cX0_widen 9 = .ok (.aload_n 0, 1) := by decide +kernel
theorem dX0_widen_10 : decode cX0_widen 10 = .ok (.getfield 13, 3) := by decide +kernel
theorem dX0_widen_13 : decode cX0_widen 13 = .ok (.invokevirtual 54, 3) := by decide +kernel
theorem dX0_widen_16 : decode cX0_widen 16 = .ok (.putfield 29, 3) := by decide +kernel
theorem dX0_widen_19 : decode cX0_widen 19 = .ok (.aload_n 0, 1) := by decide +kernel
theorem dX0_widen_20 : decode cX0_widen 20 = .ok (.aload_n 0, 1) := by decide +kernel
theorem dX0_widen_21 : decode cX0_widen 21 = .ok (.getfield 7, 3) := by decide +kernel
theorem dX0_widen_24 : decode cX0_widen 24 = .ok (.aload_n 0, 1) := by decide +kernel
theorem dX0_widen_25 : decode cX0_widen 25 = .ok (.getfield 23, 3) := by decide +kernel
theorem dX0_widen_28 : decode cX0_widen 28 = .ok (.aload_n 0, 1) := by decide +kernel
theorem dX0_widen_29 : decode cX0_widen 29 = .ok (.getfield 13, 3) := by decide +kernel
theorem dX0_widen_32 : decode cX0_widen 32 = .ok (.invokevirtual 50, 3) := by decide +kernel
theorem dX0_widen_35 : decode cX0_widen 35 = .ok (.putfield 23, 3) := by decide +kernel
theorem dX0_widen_38 : decode cX0_widen 38 = .ok (.return_, 1) := by decide +kernel
set_option maxRecDepth 20000 in
theorem ggX0_rest_X1_sized : GoodIn wsX0_rest wsX1_sized := goodIn_r _ [7, 8, 9, 10, 11, 12, 13, 14, 15, 16, 17, 5, 18, 19] (by decide +kernel) (by decide +kernel)
set_option maxRecDepth 20000 in
theorem gX0_rest_X1_sized_n57 : GoodIn wsX0_rest (wsX1_sized) := ggX0_rest_X1_sized
set_option maxRecDepth 20000 in
theorem ggX0_rest_X1_zeroBeside : GoodIn wsX0_rest wsX1_zeroBeside := goodIn_r _ [22, 23, 24, 25, 5, 26, 8, 9, 27, 4, 6, 7, 10, 11, 12, 13, 14, 15, 16, 17, 18, 19] (by decide +kernel) (by decide +kernel)
set_option maxRecDepth 20000 in
theorem gX0_rest_X1_zeroBeside_n90 : GoodIn wsX0_rest (wsX1_zeroBeside) := ggX0_rest_X1_zeroBeside
theorem dX0_rest_0 : decode cX0_rest 0 = .ok (.aload_n 0, 1) := by decide +kernel
theorem dX0_rest_1 : decode cX0_rest 1 = .ok (.getfield 7, 3) := by decide +kernel
theorem dX0_rest_4 : decode cX0_rest 4 = .ok (.aload_n 0, 1) := by decide +kernel
theorem dX0_rest_5 : decode cX0_rest 5 = .ok (.getfield 13, 3) := by decide +kernel
theorem dX0_rest_8 : decode cX0_rest 8 = .ok (.invokevirtual 57, 3) := by decide +kernel
theorem dX0_rest_11 : decode cX0_rest 11 = .ok (.aload_n 0, 1) := by decide +kernel
theorem dX0_rest_12 : decode cX0_rest 12 = .ok (.getfield 7, 3) := by decide +kernel
theorem dX0_rest_15 : decode cX0_rest 15 = .ok (.aload_n 0, 1) := by decide +kernel
theorem dX0_rest_16 : decode cX0_rest 16 = .ok (.getfield 32, 3) := by decide +kernel
theorem dX0_rest_19 : decode cX0_rest 19 = .ok (.invokevirtual 57, 3) := by decide +kernel
theorem dX0_rest_22 : decode cX0_rest 22 = .ok (.lcmp, 1) := by decide +kernel
theorem dX0_rest_23 : decode cX0_rest 23 = .ok (.ifCond .gt 18, 3) := by decide +kernel
theorem dX0_rest_26 : decode cX0_rest 26 = .ok (.aload_n 0, 1) := by decide +kernel
theorem dX0_rest_27 : decode cX0_rest 27 = .ok (.aload_n 0, 1) := by decide +kernel
theorem dX0_rest_28 : decode cX0_rest 28 = .ok (.getfield 7, 3) := by decide +kernel
theorem dX0_rest_31 : decode cX0_rest 31 = .ok (.aload_n 0, 1) := by decide +kernel
theorem dX0_rest_32 : decode cX0_rest 32 = .ok (.getfield 13, 3) := by decide +kernel
theorem dX0_rest_35 : decode cX0_rest 35 = .ok (.invokevirtual 90, 3) := by decide +kernel
theorem dX0_rest_38 : decode cX0_rest 38 = .ok (.putfield 13, 3) := by decide +kernel
theorem dX0_rest_41 : decode cX0_rest 41 = .ok (.return_, 1) := by decide +kernel
set_option maxRecDepth 20000 in
theorem ggX0_grid_X1_wholeBelow : GoodIn wsX0_grid wsX1_wholeBelow := goodIn_r _ [8, 9, 10, 11, 12, 6, 13, 14, 15, 16, 17, 18, 19, 20, 21, 22, 23, 24, 25, 26, 27, 28, 29, 30, 31, 32, 33, 34, 35, 36, 37, 38, 39, 40, 41, 42, 43, 44, 45, 46, 47, 48, 49] (by decide +kernel) (by decide +kernel)
set_option maxRecDepth 20000 in
theorem gX0_grid_X1_wholeBelow_n60 : GoodIn wsX0_grid (wsX1_wholeBelow) := ggX0_grid_X1_wholeBelow
set_option maxRecDepth 20000 in
theorem ggX0_grid_X1_wholeAbove : GoodIn wsX0_grid wsX1_wholeAbove := goodIn_r _ [52, 9, 10, 11, 12, 6, 13, 14, 15, 16, 17, 18, 19, 20, 21, 22, 23, 24, 42, 43, 44, 45, 29, 30, 31, 32, 33, 34, 35, 36, 37, 38, 39, 40, 41, 25, 26, 27, 28, 46, 47, 48, 49] (by decide +kernel) (by decide +kernel)
set_option maxRecDepth 20000 in
theorem gX0_grid_X1_wholeAbove_n63 : GoodIn wsX0_grid (wsX1_wholeAbove) := ggX0_grid_X1_wholeAbove
theorem dX0_grid_0 : decode cX0_grid 0 = .ok (.aload_n 0, 1) := by decide +kernel
theorem dX0_grid_1 : decode cX0_grid 1 = .ok (.aload_n 0, 1) := by decide +kernel
theorem dX0_grid_2 : decode cX0_grid 2 = .ok (.getfield 7, 3) := by decide +kernel
theorem dX0_grid_5 : decode cX0_grid 5 = .ok (.aload_n 0, 1) := by decide +kernel
theorem dX0_grid_6 : decode cX0_grid 6 = .ok (.getfield 13, 3) := by decide +kernel
theorem dX0_grid_9 : decode cX0_grid 9 = .ok (.invokevirtual 60, 3) := by decide +kernel
theorem dX0_grid_12 : decode cX0_grid 12 = .ok (.putfield 23, 3) := by decide +kernel
theorem dX0_grid_15 : decode cX0_grid 15 = .ok (.aload_n 0, 1) := by decide +kernel
theorem dX0_grid_16 : decode cX0_grid 16 = .ok (.aload_n 0, 1) := by decide +kernel
theorem dX0_grid_17 : decode cX0_grid 17 = .ok (.getfield 7, 3) := by decide +kernel
theorem dX0_grid_20 : decode cX0_grid 20 = .ok (.aload_n 0, 1) := by decide +kernel
theorem dX0_grid_21 : decode cX0_grid 21 = .ok (.getfield 13, 3) := by decide +kernel
theorem dX0_grid_24 : decode cX0_grid 24 = .ok (.invokevirtual 63, 3) := by decide +kernel
theorem dX0_grid_27 : decode cX0_grid 27 = .ok (.putfield 29, 3) := by decide +kernel
theorem dX0_grid_30 : decode cX0_grid 30 = .ok (.return_, 1) := by decide +kernel
theorem dX0_swap_0 : decode cX0_swap 0 = .ok (.aload_n 0, 1) := by decide +kernel
theorem dX0_swap_1 : decode cX0_swap 1 = .ok (.getfield 23, 3) := by decide +kernel
theorem dX0_swap_4 : decode cX0_swap 4 = .ok (.lstore_n 1, 1) := by decide +kernel
theorem dX0_swap_5 : decode cX0_swap 5 = .ok (.aload_n 0, 1) := by decide +kernel
theorem dX0_swap_6 : decode cX0_swap 6 = .ok (.aload_n 0, 1) := by decide +kernel
theorem dX0_swap_7 : decode cX0_swap 7 = .ok (.getfield 29, 3) := by decide +kernel
theorem dX0_swap_10 : decode cX0_swap 10 = .ok (.putfield 23, 3) := by decide +kernel
theorem dX0_swap_13 : decode cX0_swap 13 = .ok (.aload_n 0, 1) := by decide +kernel
theorem dX0_swap_14 : decode cX0_swap 14 = .ok (.lload_n 1, 1) := by decide +kernel
theorem dX0_swap_15 : decode cX0_swap 15 = .ok (.putfield 29, 3) := by decide +kernel
theorem dX0_swap_18 : decode cX0_swap 18 = .ok (.return_, 1) := by decide +kernel
theorem dX1_infinity_0 : decode cX1_infinity 0 = .ok (.ldc2_w 55, 3) := by decide +kernel
theorem dX1_infinity_3 : decode cX1_infinity 3 = .ok (.aload_n 0, 1) := by decide +kernel
theorem dX1_infinity_4 : decode cX1_infinity 4 = .ok (.getfield 46, 3) := by decide +kernel
theorem dX1_infinity_7 : decode cX1_infinity 7 = .ok (.i2l, 1) := by decide +kernel
theorem dX1_infinity_8 : decode cX1_infinity 8 = .ok (.lmul, 1) := by decide +kernel
theorem dX1_infinity_9 : decode cX1_infinity 9 = .ok (.lconst 1, 1) := by decide +kernel
theorem dX1_infinity_10 : decode cX1_infinity 10 = .ok (.ladd, 1) := by decide +kernel
theorem dX1_infinity_11 : decode cX1_infinity 11 = .ok (.aload_n 0, 1) := by decide +kernel
theorem dX1_infinity_12 : decode cX1_infinity 12 = .ok (.getfield 43, 3) := by decide +kernel
theorem dX1_infinity_15 : decode cX1_infinity 15 = .ok (.lshl, 1) := by decide +kernel
theorem dX1_infinity_16 : decode cX1_infinity 16 = .ok (.lreturn, 1) := by decide +kernel
theorem dX1_one_0 : decode cX1_one 0 = .ok (.aload_n 0, 1) := by decide +kernel
theorem dX1_one_1 : decode cX1_one 1 = .ok (.getfield 39, 3) := by decide +kernel
theorem dX1_one_4 : decode cX1_one 4 = .ok (.ifCond .eq 16, 3) := by decide +kernel
theorem dX1_one_7 : decode cX1_one 7 = .ok (.aload_n 0, 1) := by decide +kernel
theorem dX1_one_8 : decode cX1_one 8 = .ok (.getfield 46, 3) := by decide +kernel
theorem dX1_one_11 : decode cX1_one 11 = .ok (.i2l, 1) := by decide +kernel
theorem dX1_one_12 : decode cX1_one 12 = .ok (.aload_n 0, 1) := by decide +kernel
theorem dX1_one_13 : decode cX1_one 13 = .ok (.getfield 43, 3) := by decide +kernel
theorem dX1_one_16 : decode cX1_one 16 = .ok (.lshl, 1) := by decide +kernel
theorem dX1_one_17 : decode cX1_one 17 = .ok (.goto 4, 3) := by decide +kernel
theorem dX1_one_20 : decode cX1_one 20 = .ok (.lconst 1, 1) := by decide +kernel
theorem dX1_one_21 : decode cX1_one 21 = .ok (.lreturn, 1) := by decide +kernel
set_option maxRecDepth 20000 in
theorem ggX1_least_X1_infinity : GoodIn wsX1_least wsX1_infinity := goodIn_r _ [7, 8, 9, 10] (by decide +kernel) (by decide +kernel)
set_option maxRecDepth 20000 in
theorem gX1_least_X1_infinity : GoodIn wsX1_least (wsV RX1 57 RX1 yX1_infinity wsX1_infinity) := goodIn_app (goodIn_of _ (by decide +kernel)) ggX1_least_X1_infinity
theorem dX1_least_0 : decode cX1_least 0 = .ok (.aload_n 0, 1) := by decide +kernel
theorem dX1_least_1 : decode cX1_least 1 = .ok (.getfield 39, 3) := by decide +kernel
theorem dX1_least_4 : decode cX1_least 4 = .ok (.ifCond .eq 15, 3) := by decide +kernel
theorem dX1_least_7 : decode cX1_least 7 = .ok (.aload_n 0, 1) := by decide +kernel
theorem dX1_least_8 : decode cX1_least 8 = .ok (.invokevirtual 57, 3) := by decide +kernel
theorem dX1_least_11 : decode cX1_least 11 = .ok (.aload_n 0, 1) := by decide +kernel
theorem dX1_least_12 : decode cX1_least 12 = .ok (.getfield 51, 3) := by decide +kernel
theorem dX1_least_15 : decode cX1_least 15 = .ok (.lor, 1) := by decide +kernel
theorem dX1_least_16 : decode cX1_least 16 = .ok (.goto 7, 3) := by decide +kernel
theorem dX1_least_19 : decode cX1_least 19 = .ok (.aload_n 0, 1) := by decide +kernel
theorem dX1_least_20 : decode cX1_least 20 = .ok (.getfield 51, 3) := by decide +kernel
theorem dX1_least_23 : decode cX1_least 23 = .ok (.lreturn, 1) := by decide +kernel
set_option maxRecDepth 20000 in
theorem ggX1_greatest_X1_infinity : GoodIn wsX1_greatest wsX1_infinity := goodIn_r _ [8, 9, 10, 11] (by decide +kernel) (by decide +kernel)
set_option maxRecDepth 20000 in
theorem gX1_greatest_X1_infinity : GoodIn wsX1_greatest (wsV RX1 57 RX1 yX1_infinity wsX1_infinity) := goodIn_app (goodIn_of _ (by decide +kernel)) ggX1_greatest_X1_infinity
theorem dX1_greatest_0 : decode cX1_greatest 0 = .ok (.aload_n 0, 1) := by decide +kernel
theorem dX1_greatest_1 : decode cX1_greatest 1 = .ok (.getfield 39, 3) := by decide +kernel
theorem dX1_greatest_4 : decode cX1_greatest 4 = .ok (.ifCond .eq 10, 3) := by decide +kernel
theorem dX1_greatest_7 : decode cX1_greatest 7 = .ok (.aload_n 0, 1) := by decide +kernel
theorem dX1_greatest_8 : decode cX1_greatest 8 = .ok (.invokevirtual 57, 3) := by decide +kernel
theorem dX1_greatest_11 : decode cX1_greatest 11 = .ok (.goto 11, 3) := by decide +kernel
theorem dX1_greatest_14 : decode cX1_greatest 14 = .ok (.aload_n 0, 1) := by decide +kernel
theorem dX1_greatest_15 : decode cX1_greatest 15 = .ok (.getfield 51, 3) := by decide +kernel
theorem dX1_greatest_18 : decode cX1_greatest 18 = .ok (.ldc2_w 49, 3) := by decide +kernel
theorem dX1_greatest_21 : decode cX1_greatest 21 = .ok (.lxor, 1) := by decide +kernel
theorem dX1_greatest_22 : decode cX1_greatest 22 = .ok (.lreturn, 1) := by decide +kernel
theorem dX1_fitted_0 : decode cX1_fitted 0 = .ok (.lload_n 1, 1) := by decide +kernel
theorem dX1_fitted_1 : decode cX1_fitted 1 = .ok (.aload_n 0, 1) := by decide +kernel
theorem dX1_fitted_2 : decode cX1_fitted 2 = .ok (.getfield 35, 3) := by decide +kernel
theorem dX1_fitted_5 : decode cX1_fitted 5 = .ok (.lshl, 1) := by decide +kernel
theorem dX1_fitted_6 : decode cX1_fitted 6 = .ok (.aload_n 0, 1) := by decide +kernel
theorem dX1_fitted_7 : decode cX1_fitted 7 = .ok (.getfield 35, 3) := by decide +kernel
theorem dX1_fitted_10 : decode cX1_fitted 10 = .ok (.lshr, 1) := by decide +kernel
theorem dX1_fitted_11 : decode cX1_fitted 11 = .ok (.lreturn, 1) := by decide +kernel
set_option maxRecDepth 20000 in
theorem ggX1_isNumber_X1_sized : GoodIn wsX1_isNumber wsX1_sized := goodIn_r _ [6, 1, 7, 8, 9, 10, 11, 12, 13, 14, 15, 5, 16, 17] (by decide +kernel) (by decide +kernel)
set_option maxRecDepth 20000 in
theorem gX1_isNumber_X1_sized : GoodIn wsX1_isNumber (wsV RX1 61 RX1 yX1_sized wsX1_sized) := goodIn_app (goodIn_of _ (by decide +kernel)) ggX1_isNumber_X1_sized
set_option maxRecDepth 20000 in
theorem ggX1_isNumber_X1_infinity : GoodIn wsX1_isNumber wsX1_infinity := goodIn_r _ [21, 22, 23, 24] (by decide +kernel) (by decide +kernel)
set_option maxRecDepth 20000 in
theorem gX1_isNumber_X1_infinity : GoodIn wsX1_isNumber (wsV RX1 57 RX1 yX1_infinity wsX1_infinity) := goodIn_app (goodIn_of _ (by decide +kernel)) ggX1_isNumber_X1_infinity
theorem dX1_isNumber_0 : decode cX1_isNumber 0 = .ok (.aload_n 0, 1) := by decide +kernel
theorem dX1_isNumber_1 : decode cX1_isNumber 1 = .ok (.getfield 39, 3) := by decide +kernel
theorem dX1_isNumber_4 : decode cX1_isNumber 4 = .ok (.ifCond .eq 16, 3) := by decide +kernel
theorem dX1_isNumber_7 : decode cX1_isNumber 7 = .ok (.aload_n 0, 1) := by decide +kernel
theorem dX1_isNumber_8 : decode cX1_isNumber 8 = .ok (.lload_n 1, 1) := by decide +kernel
theorem dX1_isNumber_9 : decode cX1_isNumber 9 = .ok (.invokevirtual 61, 3) := by decide +kernel
theorem dX1_isNumber_12 : decode cX1_isNumber 12 = .ok (.aload_n 0, 1) := by decide +kernel
theorem dX1_isNumber_13 : decode cX1_isNumber 13 = .ok (.invokevirtual 57, 3) := by decide +kernel
theorem dX1_isNumber_16 : decode cX1_isNumber 16 = .ok (.lcmp, 1) := by decide +kernel
theorem dX1_isNumber_17 : decode cX1_isNumber 17 = .ok (.ifCond .gt 7, 3) := by decide +kernel
theorem dX1_isNumber_20 : decode cX1_isNumber 20 = .ok (.iconst 1, 1) := by decide +kernel
theorem dX1_isNumber_21 : decode cX1_isNumber 21 = .ok (.goto 4, 3) := by decide +kernel
theorem dX1_isNumber_24 : decode cX1_isNumber 24 = .ok (.iconst 0, 1) := by decide +kernel
theorem dX1_isNumber_25 : decode cX1_isNumber 25 = .ok (.ireturn, 1) := by decide +kernel
set_option maxRecDepth 20000 in
theorem ggX1_compared_X1_rank : GoodIn wsX1_compared wsX1_rank := goodIn_r _ [5, 6, 7, 8] (by decide +kernel) (by decide +kernel)
set_option maxRecDepth 20000 in
theorem gX1_compared_X1_rank : GoodIn wsX1_compared (wsV RX1 65 RX1 yX1_rank wsX1_rank) := goodIn_app (goodIn_of _ (by decide +kernel)) ggX1_compared_X1_rank
set_option maxRecDepth 20000 in
theorem ggX1_compared_J13_compare_74951 : GoodIn wsX1_compared wsJ13_compare_74951 := goodIn_r _ [12] (by decide +kernel) (by decide +kernel)
set_option maxRecDepth 20000 in
theorem gX1_compared_J13_compare_74951 : GoodIn wsX1_compared (va_wsS RX1 68 yJ13_compare_74951 wsJ13_compare_74951) := goodIn_app (goodIn_of _ (by decide +kernel)) ggX1_compared_J13_compare_74951
theorem dX1_compared_0 : decode cX1_compared 0 = .ok (.aload_n 0, 1) := by decide +kernel
theorem dX1_compared_1 : decode cX1_compared 1 = .ok (.lload_n 1, 1) := by decide +kernel
theorem dX1_compared_2 : decode cX1_compared 2 = .ok (.invokevirtual 65, 3) := by decide +kernel
theorem dX1_compared_5 : decode cX1_compared 5 = .ok (.aload_n 0, 1) := by decide +kernel
theorem dX1_compared_6 : decode cX1_compared 6 = .ok (.lload_n 3, 1) := by decide +kernel
theorem dX1_compared_7 : decode cX1_compared 7 = .ok (.invokevirtual 65, 3) := by decide +kernel
theorem dX1_compared_10 : decode cX1_compared 10 = .ok (.invokestatic 68, 3) := by decide +kernel
theorem dX1_compared_13 : decode cX1_compared 13 = .ok (.ireturn, 1) := by decide +kernel
set_option maxRecDepth 20000 in
theorem ggX1_greater_X1_compared : GoodIn wsX1_greater wsX1_compared := goodIn_r _ [5, 6, 7, 8, 4, 9, 10, 11, 12, 13, 14, 15, 16] (by decide +kernel) (by decide +kernel)
set_option maxRecDepth 20000 in
theorem gX1_greater_X1_compared : GoodIn wsX1_greater (wsV RX1 74 RX1 yX1_compared wsX1_compared) := goodIn_app (goodIn_of _ (by decide +kernel)) ggX1_greater_X1_compared
theorem dX1_greater_0 : decode cX1_greater 0 = .ok (.aload_n 0, 1) := by decide +kernel
theorem dX1_greater_1 : decode cX1_greater 1 = .ok (.lload_n 1, 1) := by decide +kernel
theorem dX1_greater_2 : decode cX1_greater 2 = .ok (.lload_n 3, 1) := by decide +kernel
theorem dX1_greater_3 : decode cX1_greater 3 = .ok (.invokevirtual 74, 3) := by decide +kernel
theorem dX1_greater_6 : decode cX1_greater 6 = .ok (.ifCond .lt 7, 3) := by decide +kernel
theorem dX1_greater_9 : decode cX1_greater 9 = .ok (.lload_n 1, 1) := by decide +kernel
theorem dX1_greater_10 : decode cX1_greater 10 = .ok (.goto 4, 3) := by decide +kernel
theorem dX1_greater_13 : decode cX1_greater 13 = .ok (.lload_n 3, 1) := by decide +kernel
theorem dX1_greater_14 : decode cX1_greater 14 = .ok (.lreturn, 1) := by decide +kernel
set_option maxRecDepth 20000 in
theorem ggX1_lesser_X1_compared : GoodIn wsX1_lesser wsX1_compared := goodIn_r _ [5, 6, 7, 8, 4, 9, 10, 11, 12, 13, 14, 15, 16] (by decide +kernel) (by decide +kernel)
set_option maxRecDepth 20000 in
theorem gX1_lesser_X1_compared : GoodIn wsX1_lesser (wsV RX1 74 RX1 yX1_compared wsX1_compared) := goodIn_app (goodIn_of _ (by decide +kernel)) ggX1_lesser_X1_compared
theorem dX1_lesser_0 : decode cX1_lesser 0 = .ok (.aload_n 0, 1) := by decide +kernel
theorem dX1_lesser_1 : decode cX1_lesser 1 = .ok (.lload_n 1, 1) := by decide +kernel
theorem dX1_lesser_2 : decode cX1_lesser 2 = .ok (.lload_n 3, 1) := by decide +kernel
theorem dX1_lesser_3 : decode cX1_lesser 3 = .ok (.invokevirtual 74, 3) := by decide +kernel
theorem dX1_lesser_6 : decode cX1_lesser 6 = .ok (.ifCond .gt 7, 3) := by decide +kernel
theorem dX1_lesser_9 : decode cX1_lesser 9 = .ok (.lload_n 1, 1) := by decide +kernel
theorem dX1_lesser_10 : decode cX1_lesser 10 = .ok (.goto 4, 3) := by decide +kernel
theorem dX1_lesser_13 : decode cX1_lesser 13 = .ok (.lload_n 3, 1) := by decide +kernel
theorem dX1_lesser_14 : decode cX1_lesser 14 = .ok (.lreturn, 1) := by decide +kernel
theorem dX1_rank_0 : decode cX1_rank 0 = .ok (.aload_n 0, 1) := by decide +kernel
theorem dX1_rank_1 : decode cX1_rank 1 = .ok (.getfield 39, 3) := by decide +kernel
theorem dX1_rank_4 : decode cX1_rank 4 = .ok (.ifCond .eq 22, 3) := by decide +kernel
theorem dX1_rank_7 : decode cX1_rank 7 = .ok (.lload_n 1, 1) := by decide +kernel
theorem dX1_rank_8 : decode cX1_rank 8 = .ok (.lconst 0, 1) := by decide +kernel
theorem dX1_rank_9 : decode cX1_rank 9 = .ok (.lcmp, 1) := by decide +kernel
theorem dX1_rank_10 : decode cX1_rank 10 = .ok (.ifCond .ge 16, 3) := by decide +kernel
theorem dX1_rank_13 : decode cX1_rank 13 = .ok (.lload_n 1, 1) := by decide +kernel
theorem dX1_rank_14 : decode cX1_rank 14 = .ok (.aload_n 0, 1) := by decide +kernel
theorem dX1_rank_15 : decode cX1_rank 15 = .ok (.getfield 51, 3) := by decide +kernel
theorem dX1_rank_18 : decode cX1_rank 18 = .ok (.ldc2_w 49, 3) := by decide +kernel
theorem dX1_rank_21 : decode cX1_rank 21 = .ok (.lxor, 1) := by decide +kernel
theorem dX1_rank_22 : decode cX1_rank 22 = .ok (.lxor, 1) := by decide +kernel
theorem dX1_rank_23 : decode cX1_rank 23 = .ok (.goto 4, 3) := by decide +kernel
theorem dX1_rank_26 : decode cX1_rank 26 = .ok (.lload_n 1, 1) := by decide +kernel
theorem dX1_rank_27 : decode cX1_rank 27 = .ok (.lreturn, 1) := by decide +kernel
set_option maxRecDepth 20000 in
theorem ggX1_sized_X1_fitted : GoodIn wsX1_sized wsX1_fitted := goodIn_r _ [12, 13] (by decide +kernel) (by decide +kernel)
set_option maxRecDepth 20000 in
theorem gX1_sized_X1_fitted : GoodIn wsX1_sized (wsV RX1 82 RX1 yX1_fitted wsX1_fitted) := goodIn_app (goodIn_of _ (by decide +kernel)) ggX1_sized_X1_fitted
theorem dX1_sized_0 : decode cX1_sized 0 = .ok (.aload_n 0, 1) := by decide +kernel
theorem dX1_sized_1 : decode cX1_sized 1 = .ok (.getfield 39, 3) := by decide +kernel
theorem dX1_sized_4 : decode cX1_sized 4 = .ok (.ifCond .eq 16, 3) := by decide +kernel
theorem dX1_sized_7 : decode cX1_sized 7 = .ok (.lload_n 1, 1) := by decide +kernel
theorem dX1_sized_8 : decode cX1_sized 8 = .ok (.aload_n 0, 1) := by decide +kernel
theorem dX1_sized_9 : decode cX1_sized 9 = .ok (.getfield 51, 3) := by decide +kernel
theorem dX1_sized_12 : decode cX1_sized 12 = .ok (.ldc2_w 49, 3) := by decide +kernel
theorem dX1_sized_15 : decode cX1_sized 15 = .ok (.lxor, 1) := by decide +kernel
theorem dX1_sized_16 : decode cX1_sized 16 = .ok (.land, 1) := by decide +kernel
theorem dX1_sized_17 : decode cX1_sized 17 = .ok (.goto 11, 3) := by decide +kernel
theorem dX1_sized_20 : decode cX1_sized 20 = .ok (.aload_n 0, 1) := by decide +kernel
theorem dX1_sized_21 : decode cX1_sized 21 = .ok (.lload_n 1, 1) := by decide +kernel
theorem dX1_sized_22 : decode cX1_sized 22 = .ok (.invokestatic 77, 3) := by decide +kernel
theorem dX1_sized_25 : decode cX1_sized 25 = .ok (.invokevirtual 82, 3) := by decide +kernel
theorem dX1_sized_28 : decode cX1_sized 28 = .ok (.lreturn, 1) := by decide +kernel
set_option maxRecDepth 20000 in
theorem ggX1_turned_X1_sized : GoodIn wsX1_turned wsX1_sized := goodIn_r _ [7, 1, 2, 8, 9, 10, 11, 12, 13, 14, 15, 6, 16, 17] (by decide +kernel) (by decide +kernel)
set_option maxRecDepth 20000 in
theorem gX1_turned_X1_sized : GoodIn wsX1_turned (wsV RX1 61 RX1 yX1_sized wsX1_sized) := goodIn_app (goodIn_of _ (by decide +kernel)) ggX1_turned_X1_sized
set_option maxRecDepth 20000 in
theorem ggX1_turned_X1_fitted : GoodIn wsX1_turned wsX1_fitted := goodIn_r _ [16, 17] (by decide +kernel) (by decide +kernel)
set_option maxRecDepth 20000 in
theorem gX1_turned_X1_fitted : GoodIn wsX1_turned (wsV RX1 82 RX1 yX1_fitted wsX1_fitted) := goodIn_app (goodIn_of _ (by decide +kernel)) ggX1_turned_X1_fitted
theorem dX1_turned_0 : decode cX1_turned 0 = .ok (.aload_n 0, 1) := by decide +kernel
theorem dX1_turned_1 : decode cX1_turned 1 = .ok (.lload_n 1, 1) := by decide +kernel
theorem dX1_turned_2 : decode cX1_turned 2 = .ok (.invokevirtual 61, 3) := by decide +kernel
theorem dX1_turned_5 : decode cX1_turned 5 = .ok (.lstore 5, 2) := by decide +kernel
theorem dX1_turned_7 : decode cX1_turned 7 = .ok (.lload_n 3, 1) := by decide +kernel
theorem dX1_turned_8 : decode cX1_turned 8 = .ok (.lconst 0, 1) := by decide +kernel
theorem dX1_turned_9 : decode cX1_turned 9 = .ok (.lcmp, 1) := by decide +kernel
theorem dX1_turned_10 : decode cX1_turned 10 = .ok (.ifCond .lt 6, 3) := by decide +kernel
theorem dX1_turned_13 : decode cX1_turned 13 = .ok (.lload 5, 2) := by decide +kernel
theorem dX1_turned_15 : decode cX1_turned 15 = .ok (.lreturn, 1) := by decide +kernel
theorem dX1_turned_16 : decode cX1_turned 16 = .ok (.aload_n 0, 1) := by decide +kernel
theorem dX1_turned_17 : decode cX1_turned 17 = .ok (.getfield 39, 3) := by decide +kernel
theorem dX1_turned_20 : decode cX1_turned 20 = .ok (.ifCond .eq 13, 3) := by decide +kernel
theorem dX1_turned_23 : decode cX1_turned 23 = .ok (.lload 5, 2) := by decide +kernel
theorem dX1_turned_25 : decode cX1_turned 25 = .ok (.aload_n 0, 1) := by decide +kernel
theorem dX1_turned_26 : decode cX1_turned 26 = .ok (.getfield 51, 3) := by decide +kernel
theorem dX1_turned_29 : decode cX1_turned 29 = .ok (.lor, 1) := by decide +kernel
theorem dX1_turned_30 : decode cX1_turned 30 = .ok (.goto 10, 3) := by decide +kernel
theorem dX1_turned_33 : decode cX1_turned 33 = .ok (.aload_n 0, 1) := by decide +kernel
theorem dX1_turned_34 : decode cX1_turned 34 = .ok (.lload 5, 2) := by decide +kernel
theorem dX1_turned_36 : decode cX1_turned 36 = .ok (.lneg, 1) := by decide +kernel
theorem dX1_turned_37 : decode cX1_turned 37 = .ok (.invokevirtual 82, 3) := by decide +kernel
theorem dX1_turned_40 : decode cX1_turned 40 = .ok (.lreturn, 1) := by decide +kernel
set_option maxRecDepth 20000 in
theorem ggX1_zeroBeside_X1_turned : GoodIn wsX1_zeroBeside wsX1_turned := goodIn_r _ [5, 6, 7, 8, 9, 10, 4, 11, 12, 13, 14, 15, 16, 17, 18, 19, 20, 21] (by decide +kernel) (by decide +kernel)
set_option maxRecDepth 20000 in
theorem gX1_zeroBeside_X1_turned : GoodIn wsX1_zeroBeside (wsV RX1 85 RX1 yX1_turned wsX1_turned) := goodIn_app (goodIn_of _ (by decide +kernel)) ggX1_zeroBeside_X1_turned
theorem dX1_zeroBeside_0 : decode cX1_zeroBeside 0 = .ok (.aload_n 0, 1) := by decide +kernel
theorem dX1_zeroBeside_1 : decode cX1_zeroBeside 1 = .ok (.lconst 0, 1) := by decide +kernel
theorem dX1_zeroBeside_2 : decode cX1_zeroBeside 2 = .ok (.lload_n 1, 1) := by decide +kernel
theorem dX1_zeroBeside_3 : decode cX1_zeroBeside 3 = .ok (.invokevirtual 85, 3) := by decide +kernel
theorem dX1_zeroBeside_6 : decode cX1_zeroBeside 6 = .ok (.lreturn, 1) := by decide +kernel
set_option maxRecDepth 20000 in
theorem ggX1_wholeBelow_X1_sized : GoodIn wsX1_wholeBelow wsX1_sized := goodIn_r _ [6, 1, 7, 8, 9, 10, 11, 12, 13, 14, 15, 5, 16, 17] (by decide +kernel) (by decide +kernel)
set_option maxRecDepth 20000 in
theorem gX1_wholeBelow_X1_sized : GoodIn wsX1_wholeBelow (wsV RX1 61 RX1 yX1_sized wsX1_sized) := goodIn_app (goodIn_of _ (by decide +kernel)) ggX1_wholeBelow_X1_sized
set_option maxRecDepth 20000 in
theorem ggX1_wholeBelow_X1_outward : GoodIn wsX1_wholeBelow wsX1_outward := goodIn_r _ [21, 8, 22, 23, 24, 5, 25, 1, 26, 27, 28, 29, 30, 31, 32, 33, 11, 34] (by decide +kernel) (by decide +kernel)
set_option maxRecDepth 20000 in
theorem gX1_wholeBelow_X1_outward : GoodIn wsX1_wholeBelow (wsV RX1 89 RX1 yX1_outward wsX1_outward) := goodIn_app (goodIn_of _ (by decide +kernel)) ggX1_wholeBelow_X1_outward
set_option maxRecDepth 20000 in
theorem ggX1_wholeBelow_X1_inward : GoodIn wsX1_wholeBelow wsX1_inward := goodIn_r _ [38, 22, 23, 24, 5, 25, 1, 26, 27, 28, 29, 30, 31, 32, 33, 11, 34] (by decide +kernel) (by decide +kernel)
set_option maxRecDepth 20000 in
theorem gX1_wholeBelow_X1_inward : GoodIn wsX1_wholeBelow (wsV RX1 92 RX1 yX1_inward wsX1_inward) := goodIn_app (goodIn_of _ (by decide +kernel)) ggX1_wholeBelow_X1_inward
set_option maxRecDepth 20000 in
theorem ggX1_wholeBelow_X1_turned : GoodIn wsX1_wholeBelow wsX1_turned := goodIn_r _ [42, 1, 7, 2, 3, 4, 5, 6, 8, 9, 10, 11, 12, 13, 14, 15, 16, 17] (by decide +kernel) (by decide +kernel)
set_option maxRecDepth 20000 in
theorem gX1_wholeBelow_X1_turned : GoodIn wsX1_wholeBelow (wsV RX1 85 RX1 yX1_turned wsX1_turned) := goodIn_app (goodIn_of _ (by decide +kernel)) ggX1_wholeBelow_X1_turned
theorem dX1_wholeBelow_0 : decode cX1_wholeBelow 0 = .ok (.aload_n 0, 1) := by decide +kernel
theorem dX1_wholeBelow_1 : decode cX1_wholeBelow 1 = .ok (.getfield 39, 3) := by decide +kernel
theorem dX1_wholeBelow_4 : decode cX1_wholeBelow 4 = .ok (.ifCond .ne 5, 3) := by decide +kernel
theorem dX1_wholeBelow_7 : decode cX1_wholeBelow 7 = .ok (.lload_n 1, 1) := by decide +kernel
theorem dX1_wholeBelow_8 : decode cX1_wholeBelow 8 = .ok (.lreturn, 1) := by decide +kernel
theorem dX1_wholeBelow_9 : decode cX1_wholeBelow 9 = .ok (.aload_n 0, 1) := by decide +kernel
theorem dX1_wholeBelow_10 : decode cX1_wholeBelow 10 = .ok (.lload_n 1, 1) := by decide +kernel
theorem dX1_wholeBelow_11 : decode cX1_wholeBelow 11 = .ok (.invokevirtual 61, 3) := by decide +kernel
theorem dX1_wholeBelow_14 : decode cX1_wholeBelow 14 = .ok (.lstore_n 3, 1) := by decide +kernel
theorem dX1_wholeBelow_15 : decode cX1_wholeBelow 15 = .ok (.aload_n 0, 1) := by decide +kernel
theorem dX1_wholeBelow_16 : decode cX1_wholeBelow 16 = .ok (.lload_n 1, 1) := by decide +kernel
theorem dX1_wholeBelow_17 : decode cX1_wholeBelow 17 = .ok (.lconst 0, 1) := by decide +kernel
theorem dX1_wholeBelow_18 : decode cX1_wholeBelow 18 = .ok (.lcmp, 1) := by decide +kernel
theorem dX1_wholeBelow_19 : decode cX1_wholeBelow 19 = .ok (.ifCond .ge 11, 3) := by decide +kernel
theorem dX1_wholeBelow_22 : decode cX1_wholeBelow 22 = .ok (.aload_n 0, 1) := by decide +kernel
theorem dX1_wholeBelow_23 : decode cX1_wholeBelow 23 = .ok (.lload_n 3, 1) := by decide +kernel
theorem dX1_wholeBelow_24 : decode cX1_wholeBelow 24 = .ok (.invokevirtual 89, 3) := by decide +kernel
theorem dX1_wholeBelow_27 : decode cX1_wholeBelow 27 = .ok (.goto 8, 3) := by decide +kernel
theorem dX1_wholeBelow_30 : decode cX1_wholeBelow 30 = .ok (.aload_n 0, 1) := by decide +kernel
theorem dX1_wholeBelow_31 : decode cX1_wholeBelow 31 = .ok (.lload_n 3, 1) := by decide +kernel
theorem dX1_wholeBelow_32 : decode cX1_wholeBelow 32 = .ok (.invokevirtual 92, 3) := by decide +kernel
theorem dX1_wholeBelow_35 : decode cX1_wholeBelow 35 = .ok (.lload_n 1, 1) := by decide +kernel
theorem dX1_wholeBelow_36 : decode cX1_wholeBelow 36 = .ok (.invokevirtual 85, 3) := by decide +kernel
theorem dX1_wholeBelow_39 : decode cX1_wholeBelow 39 = .ok (.lreturn, 1) := by decide +kernel
set_option maxRecDepth 20000 in
theorem ggX1_wholeAbove_X1_sized : GoodIn wsX1_wholeAbove wsX1_sized := goodIn_r _ [6, 1, 7, 8, 9, 10, 11, 12, 13, 14, 15, 5, 16, 17] (by decide +kernel) (by decide +kernel)
set_option maxRecDepth 20000 in
theorem gX1_wholeAbove_X1_sized : GoodIn wsX1_wholeAbove (wsV RX1 61 RX1 yX1_sized wsX1_sized) := goodIn_app (goodIn_of _ (by decide +kernel)) ggX1_wholeAbove_X1_sized
set_option maxRecDepth 20000 in
theorem ggX1_wholeAbove_X1_inward : GoodIn wsX1_wholeAbove wsX1_inward := goodIn_r _ [21, 22, 23, 24, 5, 25, 1, 26, 27, 28, 29, 30, 31, 32, 33, 11, 34] (by decide +kernel) (by decide +kernel)
set_option maxRecDepth 20000 in
theorem gX1_wholeAbove_X1_inward : GoodIn wsX1_wholeAbove (wsV RX1 92 RX1 yX1_inward wsX1_inward) := goodIn_app (goodIn_of _ (by decide +kernel)) ggX1_wholeAbove_X1_inward
set_option maxRecDepth 20000 in
theorem ggX1_wholeAbove_X1_outward : GoodIn wsX1_wholeAbove wsX1_outward := goodIn_r _ [38, 8, 22, 23, 24, 5, 25, 1, 26, 27, 28, 29, 30, 31, 32, 33, 11, 34] (by decide +kernel) (by decide +kernel)
set_option maxRecDepth 20000 in
theorem gX1_wholeAbove_X1_outward : GoodIn wsX1_wholeAbove (wsV RX1 89 RX1 yX1_outward wsX1_outward) := goodIn_app (goodIn_of _ (by decide +kernel)) ggX1_wholeAbove_X1_outward
set_option maxRecDepth 20000 in
theorem ggX1_wholeAbove_X1_turned : GoodIn wsX1_wholeAbove wsX1_turned := goodIn_r _ [42, 1, 7, 2, 3, 4, 5, 6, 8, 9, 10, 11, 12, 13, 14, 15, 16, 17] (by decide +kernel) (by decide +kernel)
set_option maxRecDepth 20000 in
theorem gX1_wholeAbove_X1_turned : GoodIn wsX1_wholeAbove (wsV RX1 85 RX1 yX1_turned wsX1_turned) := goodIn_app (goodIn_of _ (by decide +kernel)) ggX1_wholeAbove_X1_turned
theorem dX1_wholeAbove_0 : decode cX1_wholeAbove 0 = .ok (.aload_n 0, 1) := by decide +kernel
theorem dX1_wholeAbove_1 : decode cX1_wholeAbove 1 = .ok (.getfield 39, 3) := by decide +kernel
theorem dX1_wholeAbove_4 : decode cX1_wholeAbove 4 = .ok (.ifCond .ne 5, 3) := by decide +kernel
theorem dX1_wholeAbove_7 : decode cX1_wholeAbove 7 = .ok (.lload_n 1, 1) := by decide +kernel
theorem dX1_wholeAbove_8 : decode cX1_wholeAbove 8 = .ok (.lreturn, 1) := by decide +kernel
theorem dX1_wholeAbove_9 : decode cX1_wholeAbove 9 = .ok (.aload_n 0, 1) := by decide +kernel
theorem dX1_wholeAbove_10 : decode cX1_wholeAbove 10 = .ok (.lload_n 1, 1) := by decide +kernel
theorem dX1_wholeAbove_11 : decode cX1_wholeAbove 11 = .ok (.invokevirtual 61, 3) := by decide +kernel
theorem dX1_wholeAbove_14 : decode cX1_wholeAbove 14 = .ok (.lstore_n 3, 1) := by decide +kernel
theorem dX1_wholeAbove_15 : decode cX1_wholeAbove 15 = .ok (.aload_n 0, 1) := by decide +kernel
theorem dX1_wholeAbove_16 : decode cX1_wholeAbove 16 = .ok (.lload_n 1, 1) := by decide +kernel
theorem dX1_wholeAbove_17 : decode cX1_wholeAbove 17 = .ok (.lconst 0, 1) := by decide +kernel
theorem dX1_wholeAbove_18 : decode cX1_wholeAbove 18 = .ok (.lcmp, 1) := by decide +kernel
theorem dX1_wholeAbove_19 : decode cX1_wholeAbove 19 = .ok (.ifCond .ge 11, 3) := by decide +kernel
theorem dX1_wholeAbove_22 : decode cX1_wholeAbove 22 = .ok (.aload_n 0, 1) := by decide +kernel
theorem dX1_wholeAbove_23 : decode cX1_wholeAbove 23 = .ok (.lload_n 3, 1) := by decide +kernel
theorem dX1_wholeAbove_24 : decode cX1_wholeAbove 24 = .ok (.invokevirtual 92, 3) := by decide +kernel
theorem dX1_wholeAbove_27 : decode cX1_wholeAbove 27 = .ok (.goto 8, 3) := by decide +kernel
theorem dX1_wholeAbove_30 : decode cX1_wholeAbove 30 = .ok (.aload_n 0, 1) := by decide +kernel
theorem dX1_wholeAbove_31 : decode cX1_wholeAbove 31 = .ok (.lload_n 3, 1) := by decide +kernel
theorem dX1_wholeAbove_32 : decode cX1_wholeAbove 32 = .ok (.invokevirtual 89, 3) := by decide +kernel
theorem dX1_wholeAbove_35 : decode cX1_wholeAbove 35 = .ok (.lload_n 1, 1) := by decide +kernel
theorem dX1_wholeAbove_36 : decode cX1_wholeAbove 36 = .ok (.invokevirtual 85, 3) := by decide +kernel
theorem dX1_wholeAbove_39 : decode cX1_wholeAbove 39 = .ok (.lreturn, 1) := by decide +kernel
set_option maxRecDepth 20000 in
theorem ggX1_wholeNearest_X1_sized : GoodIn wsX1_wholeNearest wsX1_sized := goodIn_r _ [6, 1, 7, 8, 9, 10, 11, 12, 13, 14, 15, 5, 16, 17] (by decide +kernel) (by decide +kernel)
set_option maxRecDepth 20000 in
theorem gX1_wholeNearest_X1_sized : GoodIn wsX1_wholeNearest (wsV RX1 61 RX1 yX1_sized wsX1_sized) := goodIn_app (goodIn_of _ (by decide +kernel)) ggX1_wholeNearest_X1_sized
set_option maxRecDepth 20000 in
theorem ggX1_wholeNearest_X1_nearest : GoodIn wsX1_wholeNearest wsX1_nearest := goodIn_r _ [21, 22, 23, 24, 25, 5, 26, 1, 27, 28, 29, 30, 31, 32, 33, 11, 34, 35, 36, 37, 38, 39, 40] (by decide +kernel) (by decide +kernel)
set_option maxRecDepth 20000 in
theorem gX1_wholeNearest_X1_nearest : GoodIn wsX1_wholeNearest (wsV RX1 95 RX1 yX1_nearest wsX1_nearest) := goodIn_app (goodIn_of _ (by decide +kernel)) ggX1_wholeNearest_X1_nearest
set_option maxRecDepth 20000 in
theorem ggX1_wholeNearest_X1_turned : GoodIn wsX1_wholeNearest wsX1_turned := goodIn_r _ [44, 1, 7, 2, 3, 4, 5, 6, 8, 9, 10, 11, 12, 13, 14, 15, 16, 17] (by decide +kernel) (by decide +kernel)
set_option maxRecDepth 20000 in
theorem gX1_wholeNearest_X1_turned : GoodIn wsX1_wholeNearest (wsV RX1 85 RX1 yX1_turned wsX1_turned) := goodIn_app (goodIn_of _ (by decide +kernel)) ggX1_wholeNearest_X1_turned
theorem dX1_wholeNearest_0 : decode cX1_wholeNearest 0 = .ok (.aload_n 0, 1) := by decide +kernel
theorem dX1_wholeNearest_1 : decode cX1_wholeNearest 1 = .ok (.getfield 39, 3) := by decide +kernel
theorem dX1_wholeNearest_4 : decode cX1_wholeNearest 4 = .ok (.ifCond .eq 20, 3) := by decide +kernel
theorem dX1_wholeNearest_7 : decode cX1_wholeNearest 7 = .ok (.aload_n 0, 1) := by decide +kernel
theorem dX1_wholeNearest_8 : decode cX1_wholeNearest 8 = .ok (.aload_n 0, 1) := by decide +kernel
theorem dX1_wholeNearest_9 : decode cX1_wholeNearest 9 = .ok (.aload_n 0, 1) := by decide +kernel
theorem dX1_wholeNearest_10 : decode cX1_wholeNearest 10 = .ok (.lload_n 1, 1) := by decide +kernel
theorem dX1_wholeNearest_11 : decode cX1_wholeNearest 11 = .ok (.invokevirtual 61, 3) := by decide +kernel
theorem dX1_wholeNearest_14 : decode cX1_wholeNearest 14 = .ok (.invokevirtual 95, 3) := by decide +kernel
theorem dX1_wholeNearest_17 : decode cX1_wholeNearest 17 = .ok (.lload_n 1, 1) := by decide +kernel
theorem dX1_wholeNearest_18 : decode cX1_wholeNearest 18 = .ok (.invokevirtual 85, 3) := by decide +kernel
theorem dX1_wholeNearest_21 : decode cX1_wholeNearest 21 = .ok (.goto 4, 3) := by decide +kernel
theorem dX1_wholeNearest_24 : decode cX1_wholeNearest 24 = .ok (.lload_n 1, 1) := by decide +kernel
theorem dX1_wholeNearest_25 : decode cX1_wholeNearest 25 = .ok (.lreturn, 1) := by decide +kernel
theorem dX1_bitsBelowUnit_0 : decode cX1_bitsBelowUnit 0 = .ok (.iconst 0, 1) := by decide +kernel
theorem dX1_bitsBelowUnit_1 : decode cX1_bitsBelowUnit 1 = .ok (.aload_n 0, 1) := by decide +kernel
theorem dX1_bitsBelowUnit_2 : decode cX1_bitsBelowUnit 2 = .ok (.getfield 46, 3) := by decide +kernel
theorem dX1_bitsBelowUnit_5 : decode cX1_bitsBelowUnit 5 = .ok (.aload_n 0, 1) := by decide +kernel
theorem dX1_bitsBelowUnit_6 : decode cX1_bitsBelowUnit 6 = .ok (.getfield 43, 3) := by decide +kernel
theorem dX1_bitsBelowUnit_9 : decode cX1_bitsBelowUnit 9 = .ok (.iadd, 1) := by decide +kernel
theorem dX1_bitsBelowUnit_10 : decode cX1_bitsBelowUnit 10 = .ok (.lload_n 1, 1) := by decide +kernel
theorem dX1_bitsBelowUnit_11 : decode cX1_bitsBelowUnit 11 = .ok (.aload_n 0, 1) := by decide +kernel
theorem dX1_bitsBelowUnit_12 : decode cX1_bitsBelowUnit 12 = .ok (.getfield 43, 3) := by decide +kernel
theorem dX1_bitsBelowUnit_15 : decode cX1_bitsBelowUnit 15 = .ok (.lushr, 1) := by decide +kernel
theorem dX1_bitsBelowUnit_16 : decode cX1_bitsBelowUnit 16 = .ok (.l2i, 1) := by decide +kernel
theorem dX1_bitsBelowUnit_17 : decode cX1_bitsBelowUnit 17 = .ok (.isub, 1) := by decide +kernel
theorem dX1_bitsBelowUnit_18 : decode cX1_bitsBelowUnit 18 = .ok (.invokestatic 98, 3) := by decide +kernel
theorem dX1_bitsBelowUnit_21 : decode cX1_bitsBelowUnit 21 = .ok (.ireturn, 1) := by decide +kernel
set_option maxRecDepth 20000 in
theorem ggX1_inward_X1_one : GoodIn wsX1_inward wsX1_one := goodIn_r _ [5, 6, 7, 8] (by decide +kernel) (by decide +kernel)
set_option maxRecDepth 20000 in
theorem gX1_inward_X1_one : GoodIn wsX1_inward (wsV RX1 102 RX1 yX1_one wsX1_one) := goodIn_app (goodIn_of _ (by decide +kernel)) ggX1_inward_X1_one
set_option maxRecDepth 20000 in
theorem ggX1_inward_X1_bitsBelowUnit : GoodIn wsX1_inward wsX1_bitsBelowUnit := goodIn_r _ [12, 7, 8, 13, 14, 15, 16] (by decide +kernel) (by decide +kernel)
set_option maxRecDepth 20000 in
theorem gX1_inward_X1_bitsBelowUnit : GoodIn wsX1_inward (wsV RX1 105 RX1 yX1_bitsBelowUnit wsX1_bitsBelowUnit) := goodIn_app (goodIn_of _ (by decide +kernel)) ggX1_inward_X1_bitsBelowUnit
theorem dX1_inward_0 : decode cX1_inward 0 = .ok (.lload_n 1, 1) := by decide +kernel
theorem dX1_inward_1 : decode cX1_inward 1 = .ok (.aload_n 0, 1) := by decide +kernel
theorem dX1_inward_2 : decode cX1_inward 2 = .ok (.invokevirtual 102, 3) := by decide +kernel
theorem dX1_inward_5 : decode cX1_inward 5 = .ok (.lcmp, 1) := by decide +kernel
theorem dX1_inward_6 : decode cX1_inward 6 = .ok (.ifCond .ge 5, 3) := by decide +kernel
theorem dX1_inward_9 : decode cX1_inward 9 = .ok (.lconst 0, 1) := by decide +kernel
theorem dX1_inward_10 : decode cX1_inward 10 = .ok (.lreturn, 1) := by decide +kernel
theorem dX1_inward_11 : decode cX1_inward 11 = .ok (.aload_n 0, 1) := by decide +kernel
theorem dX1_inward_12 : decode cX1_inward 12 = .ok (.lload_n 1, 1) := by decide +kernel
theorem dX1_inward_13 : decode cX1_inward 13 = .ok (.invokevirtual 105, 3) := by decide +kernel
theorem dX1_inward_16 : decode cX1_inward 16 = .ok (.istore_n 3, 1) := by decide +kernel
theorem dX1_inward_17 : decode cX1_inward 17 = .ok (.lload_n 1, 1) := by decide +kernel
theorem dX1_inward_18 : decode cX1_inward 18 = .ok (.iload_n 3, 1) := by decide +kernel
theorem dX1_inward_19 : decode cX1_inward 19 = .ok (.lushr, 1) := by decide +kernel
theorem dX1_inward_20 : decode cX1_inward 20 = .ok (.iload_n 3, 1) := by decide +kernel
theorem dX1_inward_21 : decode cX1_inward 21 = .ok (.lshl, 1) := by decide +kernel
theorem dX1_inward_22 : decode cX1_inward 22 = .ok (.lreturn, 1) := by decide +kernel
set_option maxRecDepth 20000 in
theorem ggX1_outward_X1_one : GoodIn wsX1_outward wsX1_one := goodIn_r _ [6, 7, 8, 9] (by decide +kernel) (by decide +kernel)
set_option maxRecDepth 20000 in
theorem gX1_outward_X1_one : GoodIn wsX1_outward (wsV RX1 102 RX1 yX1_one wsX1_one) := goodIn_app (goodIn_of _ (by decide +kernel)) ggX1_outward_X1_one
set_option maxRecDepth 20000 in
theorem ggX1_outward_X1_bitsBelowUnit : GoodIn wsX1_outward wsX1_bitsBelowUnit := goodIn_r _ [13, 8, 9, 14, 15, 16, 17] (by decide +kernel) (by decide +kernel)
set_option maxRecDepth 20000 in
theorem gX1_outward_X1_bitsBelowUnit : GoodIn wsX1_outward (wsV RX1 105 RX1 yX1_bitsBelowUnit wsX1_bitsBelowUnit) := goodIn_app (goodIn_of _ (by decide +kernel)) ggX1_outward_X1_bitsBelowUnit
theorem dX1_outward_0 : decode cX1_outward 0 = .ok (.lload_n 1, 1) := by decide +kernel
theorem dX1_outward_1 : decode cX1_outward 1 = .ok (.aload_n 0, 1) := by decide +kernel
theorem dX1_outward_2 : decode cX1_outward 2 = .ok (.invokevirtual 102, 3) := by decide +kernel
theorem dX1_outward_5 : decode cX1_outward 5 = .ok (.lcmp, 1) := by decide +kernel
theorem dX1_outward_6 : decode cX1_outward 6 = .ok (.ifCond .ge 18, 3) := by decide +kernel
theorem dX1_outward_9 : decode cX1_outward 9 = .ok (.lload_n 1, 1) := by decide +kernel
theorem dX1_outward_10 : decode cX1_outward 10 = .ok (.lconst 0, 1) := by decide +kernel
theorem dX1_outward_11 : decode cX1_outward 11 = .ok (.lcmp, 1) := by decide +kernel
theorem dX1_outward_12 : decode cX1_outward 12 = .ok (.ifCond .ne 7, 3) := by decide +kernel
theorem dX1_outward_15 : decode cX1_outward 15 = .ok (.lconst 0, 1) := by decide +kernel
theorem dX1_outward_16 : decode cX1_outward 16 = .ok (.goto 7, 3) := by decide +kernel
theorem dX1_outward_19 : decode cX1_outward 19 = .ok (.aload_n 0, 1) := by decide +kernel
theorem dX1_outward_20 : decode cX1_outward 20 = .ok (.invokevirtual 102, 3) := by decide +kernel
theorem dX1_outward_23 : decode cX1_outward 23 = .ok (.lreturn, 1) := by decide +kernel
theorem dX1_outward_24 : decode cX1_outward 24 = .ok (.lconst 1, 1) := by decide +kernel
theorem dX1_outward_25 : decode cX1_outward 25 = .ok (.aload_n 0, 1) := by decide +kernel
theorem dX1_outward_26 : decode cX1_outward 26 = .ok (.lload_n 1, 1) := by decide +kernel
theorem dX1_outward_27 : decode cX1_outward 27 = .ok (.invokevirtual 105, 3) := by decide +kernel
theorem dX1_outward_30 : decode cX1_outward 30 = .ok (.lshl, 1) := by decide +kernel
theorem dX1_outward_31 : decode cX1_outward 31 = .ok (.lconst 1, 1) := by decide +kernel
theorem dX1_outward_32 : decode cX1_outward 32 = .ok (.lsub, 1) := by decide +kernel
theorem dX1_outward_33 : decode cX1_outward 33 = .ok (.lstore_n 3, 1) := by decide +kernel
theorem dX1_outward_34 : decode cX1_outward 34 = .ok (.lload_n 1, 1) := by decide +kernel
theorem dX1_outward_35 : decode cX1_outward 35 = .ok (.lload_n 3, 1) := by decide +kernel
theorem dX1_outward_36 : decode cX1_outward 36 = .ok (.ladd, 1) := by decide +kernel
theorem dX1_outward_37 : decode cX1_outward 37 = .ok (.lload_n 3, 1) := by decide +kernel
theorem dX1_outward_38 : decode cX1_outward 38 = .ok (.ldc2_w 49, 3) := by decide +kernel
theorem dX1_outward_41 : decode cX1_outward 41 = .ok (.lxor, 1) := by decide +kernel
theorem dX1_outward_42 : decode cX1_outward 42 = .ok (.land, 1) := by decide +kernel
theorem dX1_outward_43 : decode cX1_outward 43 = .ok (.lreturn, 1) := by decide +kernel
set_option maxRecDepth 20000 in
theorem ggX1_nearest_X1_one : GoodIn wsX1_nearest wsX1_one := goodIn_r _ [6, 7, 8, 1] (by decide +kernel) (by decide +kernel)
set_option maxRecDepth 20000 in
theorem gX1_nearest_X1_one : GoodIn wsX1_nearest (wsV RX1 102 RX1 yX1_one wsX1_one) := goodIn_app (goodIn_of _ (by decide +kernel)) ggX1_nearest_X1_one
set_option maxRecDepth 20000 in
theorem ggX1_nearest_X1_bitsBelowUnit : GoodIn wsX1_nearest wsX1_bitsBelowUnit := goodIn_r _ [12, 8, 1, 13, 14, 15, 16] (by decide +kernel) (by decide +kernel)
set_option maxRecDepth 20000 in
theorem gX1_nearest_X1_bitsBelowUnit : GoodIn wsX1_nearest (wsV RX1 105 RX1 yX1_bitsBelowUnit wsX1_bitsBelowUnit) := goodIn_app (goodIn_of _ (by decide +kernel)) ggX1_nearest_X1_bitsBelowUnit
set_option maxRecDepth 20000 in
theorem ggX1_nearest_X1_scaledDown : GoodIn wsX1_nearest wsX1_scaledDown := goodIn_r _ [19, 20, 21, 15, 22] (by decide +kernel) (by decide +kernel)
set_option maxRecDepth 20000 in
theorem gX1_nearest_X1_scaledDown : GoodIn wsX1_nearest (va_wsS RX1 109 yX1_scaledDown wsX1_scaledDown) := goodIn_app (goodIn_of _ (by decide +kernel)) ggX1_nearest_X1_scaledDown
theorem dX1_nearest_0 : decode cX1_nearest 0 = .ok (.lload_n 1, 1) := by decide +kernel
theorem dX1_nearest_1 : decode cX1_nearest 1 = .ok (.aload_n 0, 1) := by decide +kernel
theorem dX1_nearest_2 : decode cX1_nearest 2 = .ok (.invokevirtual 102, 3) := by decide +kernel
theorem dX1_nearest_5 : decode cX1_nearest 5 = .ok (.lcmp, 1) := by decide +kernel
theorem dX1_nearest_6 : decode cX1_nearest 6 = .ok (.ifCond .ge 30, 3) := by decide +kernel
theorem dX1_nearest_9 : decode cX1_nearest 9 = .ok (.aload_n 0, 1) := by decide +kernel
theorem dX1_nearest_10 : decode cX1_nearest 10 = .ok (.invokevirtual 102, 3) := by decide +kernel
theorem dX1_nearest_13 : decode cX1_nearest 13 = .ok (.lconst 1, 1) := by decide +kernel
theorem dX1_nearest_14 : decode cX1_nearest 14 = .ok (.aload_n 0, 1) := by decide +kernel
theorem dX1_nearest_15 : decode cX1_nearest 15 = .ok (.getfield 43, 3) := by decide +kernel
theorem dX1_nearest_18 : decode cX1_nearest 18 = .ok (.lshl, 1) := by decide +kernel
theorem dX1_nearest_19 : decode cX1_nearest 19 = .ok (.lsub, 1) := by decide +kernel
theorem dX1_nearest_20 : decode cX1_nearest 20 = .ok (.lstore_n 3, 1) := by decide +kernel
theorem dX1_nearest_21 : decode cX1_nearest 21 = .ok (.lload_n 1, 1) := by decide +kernel
theorem dX1_nearest_22 : decode cX1_nearest 22 = .ok (.lload_n 3, 1) := by decide +kernel
theorem dX1_nearest_23 : decode cX1_nearest 23 = .ok (.lcmp, 1) := by decide +kernel
theorem dX1_nearest_24 : decode cX1_nearest 24 = .ok (.ifCond .le 10, 3) := by decide +kernel
theorem dX1_nearest_27 : decode cX1_nearest 27 = .ok (.aload_n 0, 1) := by decide +kernel
theorem dX1_nearest_28 : decode cX1_nearest 28 = .ok (.invokevirtual 102, 3) := by decide +kernel
theorem dX1_nearest_31 : decode cX1_nearest 31 = .ok (.goto 4, 3) := by decide +kernel
theorem dX1_nearest_34 : decode cX1_nearest 34 = .ok (.lconst 0, 1) := by decide +kernel
theorem dX1_nearest_35 : decode cX1_nearest 35 = .ok (.lreturn, 1) := by decide +kernel
theorem dX1_nearest_36 : decode cX1_nearest 36 = .ok (.aload_n 0, 1) := by decide +kernel
theorem dX1_nearest_37 : decode cX1_nearest 37 = .ok (.lload_n 1, 1) := by decide +kernel
theorem dX1_nearest_38 : decode cX1_nearest 38 = .ok (.invokevirtual 105, 3) := by decide +kernel
theorem dX1_nearest_41 : decode cX1_nearest 41 = .ok (.istore_n 3, 1) := by decide +kernel
theorem dX1_nearest_42 : decode cX1_nearest 42 = .ok (.lload_n 1, 1) := by decide +kernel
theorem dX1_nearest_43 : decode cX1_nearest 43 = .ok (.iload_n 3, 1) := by decide +kernel
theorem dX1_nearest_44 : decode cX1_nearest 44 = .ok (.invokestatic 109, 3) := by decide +kernel
theorem dX1_nearest_47 : decode cX1_nearest 47 = .ok (.iload_n 3, 1) := by decide +kernel
theorem dX1_nearest_48 : decode cX1_nearest 48 = .ok (.lshl, 1) := by decide +kernel
theorem dX1_nearest_49 : decode cX1_nearest 49 = .ok (.lreturn, 1) := by decide +kernel
set_option maxRecDepth 20000 in
theorem ggX1_made_X1_sizeOf : GoodIn wsX1_made wsX1_sizeOf := goodIn_r _ [16, 17, 18, 19, 4, 20, 21, 22, 23, 24, 25, 26, 27, 28, 29, 30, 31, 32, 33, 15, 34, 35, 36, 37, 38, 39, 40, 41] (by decide +kernel) (by decide +kernel)
set_option maxRecDepth 20000 in
theorem gX1_made_X1_sizeOf : GoodIn wsX1_made (wsV RX1 113 RX1 yX1_sizeOf wsX1_sizeOf) := goodIn_app (goodIn_of _ (by decide +kernel)) ggX1_made_X1_sizeOf
set_option maxRecDepth 20000 in
theorem ggX1_made_X1_turned : GoodIn wsX1_made wsX1_turned := goodIn_r _ [45, 1, 46, 47, 48, 49, 15, 50, 51, 2, 3, 4, 5, 52, 53, 54, 55, 56] (by decide +kernel) (by decide +kernel)
set_option maxRecDepth 20000 in
theorem gX1_made_X1_turned : GoodIn wsX1_made (wsV RX1 85 RX1 yX1_turned wsX1_turned) := goodIn_app (goodIn_of _ (by decide +kernel)) ggX1_made_X1_turned
set_option maxRecDepth 20000 in
theorem ggX1_made_X1_fitted : GoodIn wsX1_made wsX1_fitted := goodIn_r _ [55, 56] (by decide +kernel) (by decide +kernel)
set_option maxRecDepth 20000 in
theorem gX1_made_X1_fitted : GoodIn wsX1_made (wsV RX1 82 RX1 yX1_fitted wsX1_fitted) := goodIn_app (goodIn_of _ (by decide +kernel)) ggX1_made_X1_fitted
set_option maxRecDepth 20000 in
theorem ggX1_made_X1_least : GoodIn wsX1_made wsX1_least := goodIn_r _ [60, 1, 46, 31, 32, 33, 15, 34, 35, 17, 21] (by decide +kernel) (by decide +kernel)
set_option maxRecDepth 20000 in
theorem gX1_made_X1_least : GoodIn wsX1_made (wsV RX1 116 RX1 yX1_least wsX1_least) := goodIn_app (goodIn_of _ (by decide +kernel)) ggX1_made_X1_least
set_option maxRecDepth 20000 in
theorem ggX1_made_X1_greatest : GoodIn wsX1_made wsX1_greatest := goodIn_r _ [64, 1, 46, 51, 31, 32, 33, 15, 34, 35, 17, 21] (by decide +kernel) (by decide +kernel)
set_option maxRecDepth 20000 in
theorem gX1_made_X1_greatest : GoodIn wsX1_made (wsV RX1 119 RX1 yX1_greatest wsX1_greatest) := goodIn_app (goodIn_of _ (by decide +kernel)) ggX1_made_X1_greatest
set_option maxRecDepth 20000 in
theorem ggX1_made_X1_towardsZero : GoodIn wsX1_made wsX1_towardsZero := goodIn_r _ [68, 21, 69, 39, 40, 4, 41, 47, 48, 49, 15, 50, 1, 46, 51, 2, 3, 5, 52, 53, 54, 55, 56, 70, 71, 72, 73, 18, 19, 20, 17, 57, 58, 59, 60, 31, 32, 33, 34, 35, 61, 62, 63, 64, 74, 75, 76, 77] (by decide +kernel) (by decide +kernel)
set_option maxRecDepth 20000 in
theorem gX1_made_X1_towardsZero : GoodIn wsX1_made (wsV RX1 122 RX1 yX1_towardsZero wsX1_towardsZero) := goodIn_app (goodIn_of _ (by decide +kernel)) ggX1_made_X1_towardsZero
set_option maxRecDepth 20000 in
theorem ggX1_made_X1_sized : GoodIn wsX1_made wsX1_sized := goodIn_r _ [50, 1, 46, 51, 2, 3, 4, 5, 52, 53, 54, 15, 55, 56] (by decide +kernel) (by decide +kernel)
set_option maxRecDepth 20000 in
theorem gX1_made_X1_sized : GoodIn wsX1_made (wsV RX1 61 RX1 yX1_sized wsX1_sized) := goodIn_app (goodIn_of _ (by decide +kernel)) ggX1_made_X1_sized
set_option maxRecDepth 20000 in
theorem ggX1_made_X1_infinity : GoodIn wsX1_made wsX1_infinity := goodIn_r _ [34, 35, 17, 21] (by decide +kernel) (by decide +kernel)
set_option maxRecDepth 20000 in
theorem gX1_made_X1_infinity : GoodIn wsX1_made (wsV RX1 57 RX1 yX1_infinity wsX1_infinity) := goodIn_app (goodIn_of _ (by decide +kernel)) ggX1_made_X1_infinity
set_option maxRecDepth 20000 in
theorem ggX1_made_X1_significand : GoodIn wsX1_made wsX1_significand := goodIn_r _ [77, 21] (by decide +kernel) (by decide +kernel)
set_option maxRecDepth 20000 in
theorem gX1_made_X1_significand : GoodIn wsX1_made (wsV RX1 130 RX1 yX1_significand wsX1_significand) := goodIn_app (goodIn_of _ (by decide +kernel)) ggX1_made_X1_significand
set_option maxRecDepth 20000 in
theorem ggX1_made_X1_scale : GoodIn wsX1_made wsX1_scale := goodIn_r _ [73, 21, 18, 19, 4, 20, 17] (by decide +kernel) (by decide +kernel)
set_option maxRecDepth 20000 in
theorem gX1_made_X1_scale : GoodIn wsX1_made (wsV RX1 133 RX1 yX1_scale wsX1_scale) := goodIn_app (goodIn_of _ (by decide +kernel)) ggX1_made_X1_scale
theorem dX1_made_0 : decode cX1_made 0 = .ok (.aload_n 1, 1) := by decide +kernel
theorem dX1_made_1 : decode cX1_made 1 = .ok (.getfield 39, 3) := by decide +kernel
theorem dX1_made_4 : decode cX1_made 4 = .ok (.ifCond .ne 33, 3) := by decide +kernel
theorem dX1_made_7 : decode cX1_made 7 = .ok (.aload_n 0, 1) := by decide +kernel
theorem dX1_made_8 : decode cX1_made 8 = .ok (.getfield 39, 3) := by decide +kernel
theorem dX1_made_11 : decode cX1_made 11 = .ok (.ifCond .eq 20, 3) := by decide +kernel
theorem dX1_made_14 : decode cX1_made 14 = .ok (.aload_n 0, 1) := by decide +kernel
theorem dX1_made_15 : decode cX1_made 15 = .ok (.aload_n 0, 1) := by decide +kernel
theorem dX1_made_16 : decode cX1_made 16 = .ok (.lload_n 2, 1) := by decide +kernel
theorem dX1_made_17 : decode cX1_made 17 = .ok (.invokestatic 77, 3) := by decide +kernel
theorem dX1_made_20 : decode cX1_made 20 = .ok (.iconst 0, 1) := by decide +kernel
theorem dX1_made_21 : decode cX1_made 21 = .ok (.invokevirtual 113, 3) := by decide +kernel
theorem dX1_made_24 : decode cX1_made 24 = .ok (.lload_n 2, 1) := by decide +kernel
theorem dX1_made_25 : decode cX1_made 25 = .ok (.invokevirtual 85, 3) := by decide +kernel
theorem dX1_made_28 : decode cX1_made 28 = .ok (.goto 8, 3) := by decide +kernel
theorem dX1_made_31 : decode cX1_made 31 = .ok (.aload_n 0, 1) := by decide +kernel
theorem dX1_made_32 : decode cX1_made 32 = .ok (.lload_n 2, 1) := by decide +kernel
theorem dX1_made_33 : decode cX1_made 33 = .ok (.invokevirtual 82, 3) := by decide +kernel
theorem dX1_made_36 : decode cX1_made 36 = .ok (.lreturn, 1) := by decide +kernel
theorem dX1_made_37 : decode cX1_made 37 = .ok (.aload_n 0, 1) := by decide +kernel
theorem dX1_made_38 : decode cX1_made 38 = .ok (.getfield 39, 3) := by decide +kernel
theorem dX1_made_41 : decode cX1_made 41 = .ok (.ifCond .ne 23, 3) := by decide +kernel
theorem dX1_made_44 : decode cX1_made 44 = .ok (.aload_n 0, 1) := by decide +kernel
theorem dX1_made_45 : decode cX1_made 45 = .ok (.invokevirtual 116, 3) := by decide +kernel
theorem dX1_made_48 : decode cX1_made 48 = .ok (.aload_n 0, 1) := by decide +kernel
