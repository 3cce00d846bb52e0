theorem dX1_made_49 : decode cX1_made 49 = .ok (.invokevirtual 119, 3) := by decide +kernel
theorem dX1_made_52 : decode cX1_made 52 = .ok (.aload_n 1, 1) := by decide +kernel
theorem dX1_made_53 : decode cX1_made 53 = .ok (.lload_n 2, 1) := by decide +kernel
theorem dX1_made_54 : decode cX1_made 54 = .ok (.invokevirtual 122, 3) := by decide +kernel
theorem dX1_made_57 : decode cX1_made 57 = .ok (.invokestatic 125, 3) := by decide +kernel
theorem dX1_made_60 : decode cX1_made 60 = .ok (.invokestatic 128, 3) := by decide +kernel
theorem dX1_made_63 : decode cX1_made 63 = .ok (.lreturn, 1) := by decide +kernel
theorem dX1_made_64 : decode cX1_made 64 = .ok (.aload_n 1, 1) := by decide +kernel
theorem dX1_made_65 : decode cX1_made 65 = .ok (.lload_n 2, 1) := by decide +kernel
theorem dX1_made_66 : decode cX1_made 66 = .ok (.invokevirtual 61, 3) := by decide +kernel
theorem dX1_made_69 : decode cX1_made 69 = .ok (.lstore 4, 2) := by decide +kernel
theorem dX1_made_71 : decode cX1_made 71 = .ok (.lload 4, 2) := by decide +kernel
theorem dX1_made_73 : decode cX1_made 73 = .ok (.aload_n 1, 1) := by decide +kernel
theorem dX1_made_74 : decode cX1_made 74 = .ok (.invokevirtual 57, 3) := by decide +kernel
theorem dX1_made_77 : decode cX1_made 77 = .ok (.lcmp, 1) := by decide +kernel
theorem dX1_made_78 : decode cX1_made 78 = .ok (.ifCond .ne 7, 3) := by decide +kernel
theorem dX1_made_81 : decode cX1_made 81 = .ok (.iconst 1, 1) := by decide +kernel
theorem dX1_made_82 : decode cX1_made 82 = .ok (.goto 4, 3) := by decide +kernel
theorem dX1_made_85 : decode cX1_made 85 = .ok (.iconst 0, 1) := by decide +kernel
theorem dX1_made_86 : decode cX1_made 86 = .ok (.istore 6, 2) := by decide +kernel
theorem dX1_made_88 : decode cX1_made 88 = .ok (.aload_n 0, 1) := by decide +kernel
theorem dX1_made_89 : decode cX1_made 89 = .ok (.iload 6, 2) := by decide +kernel
theorem dX1_made_91 : decode cX1_made 91 = .ok (.ifCond .eq 10, 3) := by decide +kernel
theorem dX1_made_94 : decode cX1_made 94 = .ok (.aload_n 0, 1) := by decide +kernel
theorem dX1_made_95 : decode cX1_made 95 = .ok (.invokevirtual 57, 3) := by decide +kernel
theorem dX1_made_98 : decode cX1_made 98 = .ok (.goto 19, 3) := by decide +kernel
theorem dX1_made_101 : decode cX1_made 101 = .ok (.aload_n 0, 1) := by decide +kernel
theorem dX1_made_102 : decode cX1_made 102 = .ok (.aload_n 1, 1) := by decide +kernel
theorem dX1_made_103 : decode cX1_made 103 = .ok (.lload 4, 2) := by decide +kernel
theorem dX1_made_105 : decode cX1_made 105 = .ok (.invokevirtual 130, 3) := by decide +kernel
theorem dX1_made_108 : decode cX1_made 108 = .ok (.aload_n 1, 1) := by decide +kernel
theorem dX1_made_109 : decode cX1_made 109 = .ok (.lload 4, 2) := by decide +kernel
theorem dX1_made_111 : decode cX1_made 111 = .ok (.invokevirtual 133, 3) := by decide +kernel
theorem dX1_made_114 : decode cX1_made 114 = .ok (.invokevirtual 113, 3) := by decide +kernel
theorem dX1_made_117 : decode cX1_made 117 = .ok (.lload_n 2, 1) := by decide +kernel
theorem dX1_made_118 : decode cX1_made 118 = .ok (.invokevirtual 85, 3) := by decide +kernel
theorem dX1_made_121 : decode cX1_made 121 = .ok (.lreturn, 1) := by decide +kernel
set_option maxRecDepth 20000 in
theorem ggX1_towardsZero_X1_sized : GoodIn wsX1_towardsZero wsX1_sized := goodIn_r _ [11, 12, 13, 14, 15, 16, 5, 17, 18, 19, 20, 10, 21, 22] (by decide +kernel) (by decide +kernel)
set_option maxRecDepth 20000 in
theorem gX1_towardsZero_X1_sized : GoodIn wsX1_towardsZero (wsV RX1 61 RX1 yX1_sized wsX1_sized) := goodIn_app (goodIn_of _ (by decide +kernel)) ggX1_towardsZero_X1_sized
set_option maxRecDepth 20000 in
theorem ggX1_towardsZero_X1_scale : GoodIn wsX1_towardsZero wsX1_scale := goodIn_r _ [26, 1, 27, 28, 5, 29, 30] (by decide +kernel) (by decide +kernel)
set_option maxRecDepth 20000 in
theorem gX1_towardsZero_X1_scale : GoodIn wsX1_towardsZero (wsV RX1 133 RX1 yX1_scale wsX1_scale) := goodIn_app (goodIn_of _ (by decide +kernel)) ggX1_towardsZero_X1_scale
set_option maxRecDepth 20000 in
theorem ggX1_towardsZero_X1_least : GoodIn wsX1_towardsZero wsX1_least := goodIn_r _ [34, 12, 13, 35, 36, 37, 10, 38, 39, 30, 1] (by decide +kernel) (by decide +kernel)
set_option maxRecDepth 20000 in
theorem gX1_towardsZero_X1_least : GoodIn wsX1_towardsZero (wsV RX1 116 RX1 yX1_least wsX1_least) := goodIn_app (goodIn_of _ (by decide +kernel)) ggX1_towardsZero_X1_least
set_option maxRecDepth 20000 in
theorem ggX1_towardsZero_X1_greatest : GoodIn wsX1_towardsZero wsX1_greatest := goodIn_r _ [43, 12, 13, 14, 35, 36, 37, 10, 38, 39, 30, 1] (by decide +kernel) (by decide +kernel)
set_option maxRecDepth 20000 in
theorem gX1_towardsZero_X1_greatest : GoodIn wsX1_towardsZero (wsV RX1 119 RX1 yX1_greatest wsX1_greatest) := goodIn_app (goodIn_of _ (by decide +kernel)) ggX1_towardsZero_X1_greatest
set_option maxRecDepth 20000 in
theorem ggX1_towardsZero_X1_significand : GoodIn wsX1_towardsZero wsX1_significand := goodIn_r _ [47, 1] (by decide +kernel) (by decide +kernel)
set_option maxRecDepth 20000 in
theorem gX1_towardsZero_X1_significand : GoodIn wsX1_towardsZero (wsV RX1 130 RX1 yX1_significand wsX1_significand) := goodIn_app (goodIn_of _ (by decide +kernel)) ggX1_towardsZero_X1_significand
theorem dX1_towardsZero_0 : decode cX1_towardsZero 0 = .ok (.aload_n 0, 1) := by decide +kernel
theorem dX1_towardsZero_1 : decode cX1_towardsZero 1 = .ok (.lload_n 1, 1) := by decide +kernel
theorem dX1_towardsZero_2 : decode cX1_towardsZero 2 = .ok (.invokevirtual 61, 3) := by decide +kernel
theorem dX1_towardsZero_5 : decode cX1_towardsZero 5 = .ok (.lstore_n 3, 1) := by decide +kernel
theorem dX1_towardsZero_6 : decode cX1_towardsZero 6 = .ok (.aload_n 0, 1) := by decide +kernel
theorem dX1_towardsZero_7 : decode cX1_towardsZero 7 = .ok (.lload_n 3, 1) := by decide +kernel
theorem dX1_towardsZero_8 : decode cX1_towardsZero 8 = .ok (.invokevirtual 133, 3) := by decide +kernel
theorem dX1_towardsZero_11 : decode cX1_towardsZero 11 = .ok (.istore 5, 2) := by decide +kernel
theorem dX1_towardsZero_13 : decode cX1_towardsZero 13 = .ok (.iload 5, 2) := by decide +kernel
theorem dX1_towardsZero_15 : decode cX1_towardsZero 15 = .ok (.aload_n 0, 1) := by decide +kernel
theorem dX1_towardsZero_16 : decode cX1_towardsZero 16 = .ok (.getfield 43, 3) := by decide +kernel
theorem dX1_towardsZero_19 : decode cX1_towardsZero 19 = .ok (.iadd, 1) := by decide +kernel
theorem dX1_towardsZero_20 : decode cX1_towardsZero 20 = .ok (.bipush 63, 2) := by decide +kernel
theorem dX1_towardsZero_22 : decode cX1_towardsZero 22 = .ok (.if_icmp .lt 25, 3) := by decide +kernel
theorem dX1_towardsZero_25 : decode cX1_towardsZero 25 = .ok (.lload_n 1, 1) := by decide +kernel
theorem dX1_towardsZero_26 : decode cX1_towardsZero 26 = .ok (.lconst 0, 1) := by decide +kernel
theorem dX1_towardsZero_27 : decode cX1_towardsZero 27 = .ok (.lcmp, 1) := by decide +kernel
theorem dX1_towardsZero_28 : decode cX1_towardsZero 28 = .ok (.ifCond .ge 12, 3) := by decide +kernel
theorem dX1_towardsZero_31 : decode cX1_towardsZero 31 = .ok (.getstatic 7, 3) := by decide +kernel
theorem dX1_towardsZero_34 : decode cX1_towardsZero 34 = .ok (.invokevirtual 116, 3) := by decide +kernel
theorem dX1_towardsZero_37 : decode cX1_towardsZero 37 = .ok (.goto 9, 3) := by decide +kernel
theorem dX1_towardsZero_40 : decode cX1_towardsZero 40 = .ok (.getstatic 7, 3) := by decide +kernel
theorem dX1_towardsZero_43 : decode cX1_towardsZero 43 = .ok (.invokevirtual 119, 3) := by decide +kernel
theorem dX1_towardsZero_46 : decode cX1_towardsZero 46 = .ok (.lreturn, 1) := by decide +kernel
theorem dX1_towardsZero_47 : decode cX1_towardsZero 47 = .ok (.aload_n 0, 1) := by decide +kernel
theorem dX1_towardsZero_48 : decode cX1_towardsZero 48 = .ok (.lload_n 3, 1) := by decide +kernel
theorem dX1_towardsZero_49 : decode cX1_towardsZero 49 = .ok (.invokevirtual 130, 3) := by decide +kernel
theorem dX1_towardsZero_52 : decode cX1_towardsZero 52 = .ok (.lstore 6, 2) := by decide +kernel
theorem dX1_towardsZero_54 : decode cX1_towardsZero 54 = .ok (.iload 5, 2) := by decide +kernel
theorem dX1_towardsZero_56 : decode cX1_towardsZero 56 = .ok (.ifCond .lt 11, 3) := by decide +kernel
theorem dX1_towardsZero_59 : decode cX1_towardsZero 59 = .ok (.lload 6, 2) := by decide +kernel
theorem dX1_towardsZero_61 : decode cX1_towardsZero 61 = .ok (.iload 5, 2) := by decide +kernel
theorem dX1_towardsZero_63 : decode cX1_towardsZero 63 = .ok (.lshl, 1) := by decide +kernel
theorem dX1_towardsZero_64 : decode cX1_towardsZero 64 = .ok (.goto 14, 3) := by decide +kernel
theorem dX1_towardsZero_67 : decode cX1_towardsZero 67 = .ok (.lload 6, 2) := by decide +kernel
theorem dX1_towardsZero_69 : decode cX1_towardsZero 69 = .ok (.bipush 63, 2) := by decide +kernel
theorem dX1_towardsZero_71 : decode cX1_towardsZero 71 = .ok (.iload 5, 2) := by decide +kernel
theorem dX1_towardsZero_73 : decode cX1_towardsZero 73 = .ok (.ineg, 1) := by decide +kernel
theorem dX1_towardsZero_74 : decode cX1_towardsZero 74 = .ok (.invokestatic 136, 3) := by decide +kernel
theorem dX1_towardsZero_77 : decode cX1_towardsZero 77 = .ok (.lushr, 1) := by decide +kernel
theorem dX1_towardsZero_78 : decode cX1_towardsZero 78 = .ok (.lstore 8, 2) := by decide +kernel
theorem dX1_towardsZero_80 : decode cX1_towardsZero 80 = .ok (.lload_n 1, 1) := by decide +kernel
theorem dX1_towardsZero_81 : decode cX1_towardsZero 81 = .ok (.lconst 0, 1) := by decide +kernel
theorem dX1_towardsZero_82 : decode cX1_towardsZero 82 = .ok (.lcmp, 1) := by decide +kernel
theorem dX1_towardsZero_83 : decode cX1_towardsZero 83 = .ok (.ifCond .ge 9, 3) := by decide +kernel
theorem dX1_towardsZero_86 : decode cX1_towardsZero 86 = .ok (.lload 8, 2) := by decide +kernel
theorem dX1_towardsZero_88 : decode cX1_towardsZero 88 = .ok (.lneg, 1) := by decide +kernel
theorem dX1_towardsZero_89 : decode cX1_towardsZero 89 = .ok (.goto 5, 3) := by decide +kernel
theorem dX1_towardsZero_92 : decode cX1_towardsZero 92 = .ok (.lload 8, 2) := by decide +kernel
theorem dX1_towardsZero_94 : decode cX1_towardsZero 94 = .ok (.lreturn, 1) := by decide +kernel
theorem dX1_significand_0 : decode cX1_significand 0 = .ok (.lconst 1, 1) := by decide +kernel
theorem dX1_significand_1 : decode cX1_significand 1 = .ok (.aload_n 0, 1) := by decide +kernel
theorem dX1_significand_2 : decode cX1_significand 2 = .ok (.getfield 43, 3) := by decide +kernel
theorem dX1_significand_5 : decode cX1_significand 5 = .ok (.lshl, 1) := by decide +kernel
theorem dX1_significand_6 : decode cX1_significand 6 = .ok (.lstore_n 3, 1) := by decide +kernel
theorem dX1_significand_7 : decode cX1_significand 7 = .ok (.lload_n 1, 1) := by decide +kernel
theorem dX1_significand_8 : decode cX1_significand 8 = .ok (.lload_n 3, 1) := by decide +kernel
theorem dX1_significand_9 : decode cX1_significand 9 = .ok (.lcmp, 1) := by decide +kernel
theorem dX1_significand_10 : decode cX1_significand 10 = .ok (.ifCond .ge 7, 3) := by decide +kernel
theorem dX1_significand_13 : decode cX1_significand 13 = .ok (.lload_n 1, 1) := by decide +kernel
theorem dX1_significand_14 : decode cX1_significand 14 = .ok (.goto 10, 3) := by decide +kernel
theorem dX1_significand_17 : decode cX1_significand 17 = .ok (.lload_n 1, 1) := by decide +kernel
theorem dX1_significand_18 : decode cX1_significand 18 = .ok (.lload_n 3, 1) := by decide +kernel
theorem dX1_significand_19 : decode cX1_significand 19 = .ok (.lconst 1, 1) := by decide +kernel
theorem dX1_significand_20 : decode cX1_significand 20 = .ok (.lsub, 1) := by decide +kernel
theorem dX1_significand_21 : decode cX1_significand 21 = .ok (.land, 1) := by decide +kernel
theorem dX1_significand_22 : decode cX1_significand 22 = .ok (.lload_n 3, 1) := by decide +kernel
theorem dX1_significand_23 : decode cX1_significand 23 = .ok (.lor, 1) := by decide +kernel
theorem dX1_significand_24 : decode cX1_significand 24 = .ok (.lreturn, 1) := by decide +kernel
theorem dX1_scale_0 : decode cX1_scale 0 = .ok (.iconst 1, 1) := by decide +kernel
theorem dX1_scale_1 : decode cX1_scale 1 = .ok (.lload_n 1, 1) := by decide +kernel
theorem dX1_scale_2 : decode cX1_scale 2 = .ok (.aload_n 0, 1) := by decide +kernel
theorem dX1_scale_3 : decode cX1_scale 3 = .ok (.getfield 43, 3) := by decide +kernel
theorem dX1_scale_6 : decode cX1_scale 6 = .ok (.lushr, 1) := by decide +kernel
theorem dX1_scale_7 : decode cX1_scale 7 = .ok (.l2i, 1) := by decide +kernel
theorem dX1_scale_8 : decode cX1_scale 8 = .ok (.invokestatic 98, 3) := by decide +kernel
theorem dX1_scale_11 : decode cX1_scale 11 = .ok (.aload_n 0, 1) := by decide +kernel
theorem dX1_scale_12 : decode cX1_scale 12 = .ok (.getfield 46, 3) := by decide +kernel
theorem dX1_scale_15 : decode cX1_scale 15 = .ok (.isub, 1) := by decide +kernel
theorem dX1_scale_16 : decode cX1_scale 16 = .ok (.aload_n 0, 1) := by decide +kernel
theorem dX1_scale_17 : decode cX1_scale 17 = .ok (.getfield 43, 3) := by decide +kernel
theorem dX1_scale_20 : decode cX1_scale 20 = .ok (.isub, 1) := by decide +kernel
theorem dX1_scale_21 : decode cX1_scale 21 = .ok (.ireturn, 1) := by decide +kernel
set_option maxRecDepth 20000 in
theorem ggX1_sizeOf_J13_numberOfLeadingZeros_95d88 : GoodIn wsX1_sizeOf wsJ13_numberOfLeadingZeros_95d88 := goodIn_r _ [10, 11, 12, 13, 14, 15] (by decide +kernel) (by decide +kernel)
set_option maxRecDepth 20000 in
theorem gX1_sizeOf_J13_numberOfLeadingZeros_95d88 : GoodIn wsX1_sizeOf (va_wsS RX1 138 yJ13_numberOfLeadingZeros_95d88 wsJ13_numberOfLeadingZeros_95d88) := goodIn_app (goodIn_of _ (by decide +kernel)) ggX1_sizeOf_J13_numberOfLeadingZeros_95d88
set_option maxRecDepth 20000 in
theorem ggX1_sizeOf_X1_infinity : GoodIn wsX1_sizeOf wsX1_infinity := goodIn_r _ [20, 21, 1, 6] (by decide +kernel) (by decide +kernel)
set_option maxRecDepth 20000 in
theorem gX1_sizeOf_X1_infinity : GoodIn wsX1_sizeOf (wsV RX1 57 RX1 yX1_infinity wsX1_infinity) := goodIn_app (goodIn_of _ (by decide +kernel)) ggX1_sizeOf_X1_infinity
set_option maxRecDepth 20000 in
theorem ggX1_sizeOf_X1_scaledDown : GoodIn wsX1_sizeOf wsX1_scaledDown := goodIn_r _ [24, 25, 26, 4, 27] (by decide +kernel) (by decide +kernel)
set_option maxRecDepth 20000 in
theorem gX1_sizeOf_X1_scaledDown : GoodIn wsX1_sizeOf (va_wsS RX1 109 yX1_scaledDown wsX1_scaledDown) := goodIn_app (goodIn_of _ (by decide +kernel)) ggX1_sizeOf_X1_scaledDown
theorem dX1_sizeOf_0 : decode cX1_sizeOf 0 = .ok (.lload_n 1, 1) := by decide +kernel
theorem dX1_sizeOf_1 : decode cX1_sizeOf 1 = .ok (.lconst 0, 1) := by decide +kernel
theorem dX1_sizeOf_2 : decode cX1_sizeOf 2 = .ok (.lcmp, 1) := by decide +kernel
theorem dX1_sizeOf_3 : decode cX1_sizeOf 3 = .ok (.ifCond .ne 5, 3) := by decide +kernel
theorem dX1_sizeOf_6 : decode cX1_sizeOf 6 = .ok (.lconst 0, 1) := by decide +kernel
theorem dX1_sizeOf_7 : decode cX1_sizeOf 7 = .ok (.lreturn, 1) := by decide +kernel
theorem dX1_sizeOf_8 : decode cX1_sizeOf 8 = .ok (.bipush 63, 2) := by decide +kernel
theorem dX1_sizeOf_10 : decode cX1_sizeOf 10 = .ok (.lload_n 1, 1) := by decide +kernel
theorem dX1_sizeOf_11 : decode cX1_sizeOf 11 = .ok (.invokestatic 138, 3) := by decide +kernel
theorem dX1_sizeOf_14 : decode cX1_sizeOf 14 = .ok (.isub, 1) := by decide +kernel
theorem dX1_sizeOf_15 : decode cX1_sizeOf 15 = .ok (.iload_n 3, 1) := by decide +kernel
theorem dX1_sizeOf_16 : decode cX1_sizeOf 16 = .ok (.iadd, 1) := by decide +kernel
theorem dX1_sizeOf_17 : decode cX1_sizeOf 17 = .ok (.istore 4, 2) := by decide +kernel
theorem dX1_sizeOf_19 : decode cX1_sizeOf 19 = .ok (.iload 4, 2) := by decide +kernel
theorem dX1_sizeOf_21 : decode cX1_sizeOf 21 = .ok (.aload_n 0, 1) := by decide +kernel
theorem dX1_sizeOf_22 : decode cX1_sizeOf 22 = .ok (.getfield 46, 3) := by decide +kernel
theorem dX1_sizeOf_25 : decode cX1_sizeOf 25 = .ok (.if_icmp .le 8, 3) := by decide +kernel
theorem dX1_sizeOf_28 : decode cX1_sizeOf 28 = .ok (.aload_n 0, 1) := by decide +kernel
theorem dX1_sizeOf_29 : decode cX1_sizeOf 29 = .ok (.invokevirtual 57, 3) := by decide +kernel
theorem dX1_sizeOf_32 : decode cX1_sizeOf 32 = .ok (.lreturn, 1) := by decide +kernel
theorem dX1_sizeOf_33 : decode cX1_sizeOf 33 = .ok (.iload 4, 2) := by decide +kernel
theorem dX1_sizeOf_35 : decode cX1_sizeOf 35 = .ok (.iconst 1, 1) := by decide +kernel
theorem dX1_sizeOf_36 : decode cX1_sizeOf 36 = .ok (.aload_n 0, 1) := by decide +kernel
theorem dX1_sizeOf_37 : decode cX1_sizeOf 37 = .ok (.getfield 46, 3) := by decide +kernel
theorem dX1_sizeOf_40 : decode cX1_sizeOf 40 = .ok (.isub, 1) := by decide +kernel
theorem dX1_sizeOf_41 : decode cX1_sizeOf 41 = .ok (.invokestatic 98, 3) := by decide +kernel
theorem dX1_sizeOf_44 : decode cX1_sizeOf 44 = .ok (.istore 5, 2) := by decide +kernel
theorem dX1_sizeOf_46 : decode cX1_sizeOf 46 = .ok (.lload_n 1, 1) := by decide +kernel
theorem dX1_sizeOf_47 : decode cX1_sizeOf 47 = .ok (.iload 5, 2) := by decide +kernel
theorem dX1_sizeOf_49 : decode cX1_sizeOf 49 = .ok (.aload_n 0, 1) := by decide +kernel
theorem dX1_sizeOf_50 : decode cX1_sizeOf 50 = .ok (.getfield 43, 3) := by decide +kernel
theorem dX1_sizeOf_53 : decode cX1_sizeOf 53 = .ok (.isub, 1) := by decide +kernel
theorem dX1_sizeOf_54 : decode cX1_sizeOf 54 = .ok (.iload_n 3, 1) := by decide +kernel
theorem dX1_sizeOf_55 : decode cX1_sizeOf 55 = .ok (.isub, 1) := by decide +kernel
theorem dX1_sizeOf_56 : decode cX1_sizeOf 56 = .ok (.invokestatic 109, 3) := by decide +kernel
theorem dX1_sizeOf_59 : decode cX1_sizeOf 59 = .ok (.lstore 6, 2) := by decide +kernel
theorem dX1_sizeOf_61 : decode cX1_sizeOf 61 = .ok (.iload 5, 2) := by decide +kernel
theorem dX1_sizeOf_63 : decode cX1_sizeOf 63 = .ok (.aload_n 0, 1) := by decide +kernel
theorem dX1_sizeOf_64 : decode cX1_sizeOf 64 = .ok (.getfield 46, 3) := by decide +kernel
theorem dX1_sizeOf_67 : decode cX1_sizeOf 67 = .ok (.iadd, 1) := by decide +kernel
theorem dX1_sizeOf_68 : decode cX1_sizeOf 68 = .ok (.iconst 1, 1) := by decide +kernel
theorem dX1_sizeOf_69 : decode cX1_sizeOf 69 = .ok (.isub, 1) := by decide +kernel
theorem dX1_sizeOf_70 : decode cX1_sizeOf 70 = .ok (.i2l, 1) := by decide +kernel
theorem dX1_sizeOf_71 : decode cX1_sizeOf 71 = .ok (.aload_n 0, 1) := by decide +kernel
theorem dX1_sizeOf_72 : decode cX1_sizeOf 72 = .ok (.getfield 43, 3) := by decide +kernel
theorem dX1_sizeOf_75 : decode cX1_sizeOf 75 = .ok (.lshl, 1) := by decide +kernel
theorem dX1_sizeOf_76 : decode cX1_sizeOf 76 = .ok (.lload 6, 2) := by decide +kernel
theorem dX1_sizeOf_78 : decode cX1_sizeOf 78 = .ok (.ladd, 1) := by decide +kernel
theorem dX1_sizeOf_79 : decode cX1_sizeOf 79 = .ok (.lreturn, 1) := by decide +kernel
theorem dX1_scaledDown_0 : decode cX1_scaledDown 0 = .ok (.iload_n 2, 1) := by decide +kernel
theorem dX1_scaledDown_1 : decode cX1_scaledDown 1 = .ok (.ifCond .gt 13, 3) := by decide +kernel
theorem dX1_scaledDown_4 : decode cX1_scaledDown 4 = .ok (.lload_n 0, 1) := by decide +kernel
theorem dX1_scaledDown_5 : decode cX1_scaledDown 5 = .ok (.bipush 63, 2) := by decide +kernel
theorem dX1_scaledDown_7 : decode cX1_scaledDown 7 = .ok (.iload_n 2, 1) := by decide +kernel
theorem dX1_scaledDown_8 : decode cX1_scaledDown 8 = .ok (.ineg, 1) := by decide +kernel
theorem dX1_scaledDown_9 : decode cX1_scaledDown 9 = .ok (.invokestatic 136, 3) := by decide +kernel
theorem dX1_scaledDown_12 : decode cX1_scaledDown 12 = .ok (.lshl, 1) := by decide +kernel
theorem dX1_scaledDown_13 : decode cX1_scaledDown 13 = .ok (.lreturn, 1) := by decide +kernel
theorem dX1_scaledDown_14 : decode cX1_scaledDown 14 = .ok (.iload_n 2, 1) := by decide +kernel
theorem dX1_scaledDown_15 : decode cX1_scaledDown 15 = .ok (.bipush 63, 2) := by decide +kernel
theorem dX1_scaledDown_17 : decode cX1_scaledDown 17 = .ok (.if_icmp .le 5, 3) := by decide +kernel
theorem dX1_scaledDown_20 : decode cX1_scaledDown 20 = .ok (.lconst 0, 1) := by decide +kernel
theorem dX1_scaledDown_21 : decode cX1_scaledDown 21 = .ok (.lreturn, 1) := by decide +kernel
theorem dX1_scaledDown_22 : decode cX1_scaledDown 22 = .ok (.lload_n 0, 1) := by decide +kernel
theorem dX1_scaledDown_23 : decode cX1_scaledDown 23 = .ok (.iload_n 2, 1) := by decide +kernel
theorem dX1_scaledDown_24 : decode cX1_scaledDown 24 = .ok (.lushr, 1) := by decide +kernel
theorem dX1_scaledDown_25 : decode cX1_scaledDown 25 = .ok (.lstore_n 3, 1) := by decide +kernel
theorem dX1_scaledDown_26 : decode cX1_scaledDown 26 = .ok (.lload_n 0, 1) := by decide +kernel
theorem dX1_scaledDown_27 : decode cX1_scaledDown 27 = .ok (.lconst 1, 1) := by decide +kernel
theorem dX1_scaledDown_28 : decode cX1_scaledDown 28 = .ok (.iload_n 2, 1) := by decide +kernel
theorem dX1_scaledDown_29 : decode cX1_scaledDown 29 = .ok (.lshl, 1) := by decide +kernel
theorem dX1_scaledDown_30 : decode cX1_scaledDown 30 = .ok (.lconst 1, 1) := by decide +kernel
theorem dX1_scaledDown_31 : decode cX1_scaledDown 31 = .ok (.lsub, 1) := by decide +kernel
theorem dX1_scaledDown_32 : decode cX1_scaledDown 32 = .ok (.land, 1) := by decide +kernel
theorem dX1_scaledDown_33 : decode cX1_scaledDown 33 = .ok (.lstore 5, 2) := by decide +kernel
theorem dX1_scaledDown_35 : decode cX1_scaledDown 35 = .ok (.lconst 1, 1) := by decide +kernel
theorem dX1_scaledDown_36 : decode cX1_scaledDown 36 = .ok (.iload_n 2, 1) := by decide +kernel
theorem dX1_scaledDown_37 : decode cX1_scaledDown 37 = .ok (.iconst 1, 1) := by decide +kernel
theorem dX1_scaledDown_38 : decode cX1_scaledDown 38 = .ok (.isub, 1) := by decide +kernel
theorem dX1_scaledDown_39 : decode cX1_scaledDown 39 = .ok (.lshl, 1) := by decide +kernel
theorem dX1_scaledDown_40 : decode cX1_scaledDown 40 = .ok (.lstore 7, 2) := by decide +kernel
theorem dX1_scaledDown_42 : decode cX1_scaledDown 42 = .ok (.lload 5, 2) := by decide +kernel
theorem dX1_scaledDown_44 : decode cX1_scaledDown 44 = .ok (.lload 7, 2) := by decide +kernel
theorem dX1_scaledDown_46 : decode cX1_scaledDown 46 = .ok (.lcmp, 1) := by decide +kernel
theorem dX1_scaledDown_47 : decode cX1_scaledDown 47 = .ok (.ifCond .gt 19, 3) := by decide +kernel
theorem dX1_scaledDown_50 : decode cX1_scaledDown 50 = .ok (.lload 5, 2) := by decide +kernel
theorem dX1_scaledDown_52 : decode cX1_scaledDown 52 = .ok (.lload 7, 2) := by decide +kernel
theorem dX1_scaledDown_54 : decode cX1_scaledDown 54 = .ok (.lcmp, 1) := by decide +kernel
theorem dX1_scaledDown_55 : decode cX1_scaledDown 55 = .ok (.ifCond .ne 15, 3) := by decide +kernel
theorem dX1_scaledDown_58 : decode cX1_scaledDown 58 = .ok (.lload_n 3, 1) := by decide +kernel
theorem dX1_scaledDown_59 : decode cX1_scaledDown 59 = .ok (.lconst 1, 1) := by decide +kernel
theorem dX1_scaledDown_60 : decode cX1_scaledDown 60 = .ok (.land, 1) := by decide +kernel
theorem dX1_scaledDown_61 : decode cX1_scaledDown 61 = .ok (.lconst 0, 1) := by decide +kernel
theorem dX1_scaledDown_62 : decode cX1_scaledDown 62 = .ok (.lcmp, 1) := by decide +kernel
theorem dX1_scaledDown_63 : decode cX1_scaledDown 63 = .ok (.ifCond .eq 7, 3) := by decide +kernel
theorem dX1_scaledDown_66 : decode cX1_scaledDown 66 = .ok (.iconst 1, 1) := by decide +kernel
theorem dX1_scaledDown_67 : decode cX1_scaledDown 67 = .ok (.goto 4, 3) := by decide +kernel
theorem dX1_scaledDown_70 : decode cX1_scaledDown 70 = .ok (.iconst 0, 1) := by decide +kernel
theorem dX1_scaledDown_71 : decode cX1_scaledDown 71 = .ok (.istore 9, 2) := by decide +kernel
theorem dX1_scaledDown_73 : decode cX1_scaledDown 73 = .ok (.iload 9, 2) := by decide +kernel
theorem dX1_scaledDown_75 : decode cX1_scaledDown 75 = .ok (.ifCond .eq 9, 3) := by decide +kernel
theorem dX1_scaledDown_78 : decode cX1_scaledDown 78 = .ok (.lload_n 3, 1) := by decide +kernel
theorem dX1_scaledDown_79 : decode cX1_scaledDown 79 = .ok (.lconst 1, 1) := by decide +kernel
theorem dX1_scaledDown_80 : decode cX1_scaledDown 80 = .ok (.ladd, 1) := by decide +kernel
theorem dX1_scaledDown_81 : decode cX1_scaledDown 81 = .ok (.goto 4, 3) := by decide +kernel
theorem dX1_scaledDown_84 : decode cX1_scaledDown 84 = .ok (.lload_n 3, 1) := by decide +kernel
theorem dX1_scaledDown_85 : decode cX1_scaledDown 85 = .ok (.lreturn, 1) := by decide +kernel
theorem dX2_init_0 : decode cX2_init 0 = .ok (.aload_n 0, 1) := by decide +kernel
theorem dX2_init_1 : decode cX2_init 1 = .ok (.invokespecial 1, 3) := by decide +kernel
theorem dX2_init_4 : decode cX2_init 4 = .ok (.aload_n 0, 1) := by decide +kernel
theorem dX2_init_5 : decode cX2_init 5 = .ok (.bipush 8, 2) := by decide +kernel
theorem dX2_init_7 : decode cX2_init 7 = .ok (.anewarray 9, 3) := by decide +kernel
theorem dX2_init_10 : decode cX2_init 10 = .ok (.putfield 11, 3) := by decide +kernel
theorem dX2_init_13 : decode cX2_init 13 = .ok (.aload_n 0, 1) := by decide +kernel
theorem dX2_init_14 : decode cX2_init 14 = .ok (.iconst 0, 1) := by decide +kernel
theorem dX2_init_15 : decode cX2_init 15 = .ok (.putfield 15, 3) := by decide +kernel
theorem dX2_init_18 : decode cX2_init 18 = .ok (.return_, 1) := by decide +kernel
set_option maxRecDepth 20000 in
theorem ggX2_axis_X0_init : GoodIn wsX2_axis wsX0_init := goodIn_r _ [8, 9, 10, 11, 12, 13, 14, 15, 16, 17, 18, 19, 20, 21, 22, 23, 24, 25, 26, 27, 28, 29, 30, 31, 32, 33, 34, 37, 38, 39, 40, 41, 42] (by decide +kernel) (by decide +kernel)
set_option maxRecDepth 20000 in
theorem gX2_axis_X0_init_n23 : GoodIn wsX2_axis (wsX0_init) := ggX2_axis_X0_init
theorem dX2_axis_0 : decode cX2_axis 0 = .ok (.iload_n 1, 1) := by decide +kernel
theorem dX2_axis_1 : decode cX2_axis 1 = .ok (.ifCond .lt 23, 3) := by decide +kernel
theorem dX2_axis_4 : decode cX2_axis 4 = .ok (.iload_n 1, 1) := by decide +kernel
theorem dX2_axis_5 : decode cX2_axis 5 = .ok (.getstatic 19, 3) := by decide +kernel
theorem dX2_axis_8 : decode cX2_axis 8 = .ok (.arraylength, 1) := by decide +kernel
theorem dX2_axis_9 : decode cX2_axis 9 = .ok (.if_icmp .ge 15, 3) := by decide +kernel
theorem dX2_axis_12 : decode cX2_axis 12 = .ok (.aload_n 0, 1) := by decide +kernel
theorem dX2_axis_13 : decode cX2_axis 13 = .ok (.getfield 15, 3) := by decide +kernel
theorem dX2_axis_16 : decode cX2_axis 16 = .ok (.aload_n 0, 1) := by decide +kernel
theorem dX2_axis_17 : decode cX2_axis 17 = .ok (.getfield 11, 3) := by decide +kernel
theorem dX2_axis_20 : decode cX2_axis 20 = .ok (.arraylength, 1) := by decide +kernel
theorem dX2_axis_21 : decode cX2_axis 21 = .ok (.if_icmp .lt 5, 3) := by decide +kernel
theorem dX2_axis_24 : decode cX2_axis 24 = .ok (.iconst (-1), 1) := by decide +kernel
theorem dX2_axis_25 : decode cX2_axis 25 = .ok (.ireturn, 1) := by decide +kernel
theorem dX2_axis_26 : decode cX2_axis 26 = .ok (.aload_n 0, 1) := by decide +kernel
theorem dX2_axis_27 : decode cX2_axis 27 = .ok (.getfield 11, 3) := by decide +kernel
theorem dX2_axis_30 : decode cX2_axis 30 = .ok (.aload_n 0, 1) := by decide +kernel
theorem dX2_axis_31 : decode cX2_axis 31 = .ok (.getfield 15, 3) := by decide +kernel
theorem dX2_axis_34 : decode cX2_axis 34 = .ok (.new 9, 3) := by decide +kernel
theorem dX2_axis_37 : decode cX2_axis 37 = .ok (.dup, 1) := by decide +kernel
theorem dX2_axis_38 : decode cX2_axis 38 = .ok (.getstatic 19, 3) := by decide +kernel
theorem dX2_axis_41 : decode cX2_axis 41 = .ok (.iload_n 1, 1) := by decide +kernel
theorem dX2_axis_42 : decode cX2_axis 42 = .ok (.aaload, 1) := by decide +kernel
theorem dX2_axis_43 : decode cX2_axis 43 = .ok (.invokespecial 23, 3) := by decide +kernel
theorem dX2_axis_46 : decode cX2_axis 46 = .ok (.aastore, 1) := by decide +kernel
theorem dX2_axis_47 : decode cX2_axis 47 = .ok (.aload_n 0, 1) := by decide +kernel
theorem dX2_axis_48 : decode cX2_axis 48 = .ok (.dup, 1) := by decide +kernel
theorem dX2_axis_49 : decode cX2_axis 49 = .ok (.getfield 15, 3) := by decide +kernel
theorem dX2_axis_52 : decode cX2_axis 52 = .ok (.iconst 1, 1) := by decide +kernel
theorem dX2_axis_53 : decode cX2_axis 53 = .ok (.iadd, 1) := by decide +kernel
theorem dX2_axis_54 : decode cX2_axis 54 = .ok (.putfield 15, 3) := by decide +kernel
theorem dX2_axis_57 : decode cX2_axis 57 = .ok (.aload_n 0, 1) := by decide +kernel
theorem dX2_axis_58 : decode cX2_axis 58 = .ok (.getfield 15, 3) := by decide +kernel
theorem dX2_axis_61 : decode cX2_axis 61 = .ok (.iconst 1, 1) := by decide +kernel
theorem dX2_axis_62 : decode cX2_axis 62 = .ok (.isub, 1) := by decide +kernel
theorem dX2_axis_63 : decode cX2_axis 63 = .ok (.ireturn, 1) := by decide +kernel
set_option maxRecDepth 20000 in
theorem ggX2_set_X2_find : GoodIn wsX2_set wsX2_find := goodIn_r _ [5, 6, 7, 45, 46] (by decide +kernel) (by decide +kernel)
set_option maxRecDepth 20000 in
theorem gX2_set_X2_find : GoodIn wsX2_set (wsV RX2 26 RX2 yX2_find wsX2_find) := goodIn_app (goodIn_of _ (by decide +kernel)) ggX2_set_X2_find
set_option maxRecDepth 20000 in
theorem ggX2_set_X0_put : GoodIn wsX2_set wsX0_put := goodIn_r _ [11, 12, 13, 14, 15, 16, 17, 18, 19, 20, 21, 22, 23, 24, 25, 26, 27, 28, 29, 30, 31, 32, 33, 34, 35, 36, 37, 38, 39, 40, 41, 42, 43, 44, 47, 48, 49, 50, 51, 52] (by decide +kernel) (by decide +kernel)
set_option maxRecDepth 20000 in
theorem gX2_set_X0_put_n30 : GoodIn wsX2_set (wsX0_put) := ggX2_set_X0_put
theorem dX2_set_0 : decode cX2_set 0 = .ok (.aload_n 0, 1) := by decide +kernel
theorem dX2_set_1 : decode cX2_set 1 = .ok (.iload_n 1, 1) := by decide +kernel
theorem dX2_set_2 : decode cX2_set 2 = .ok (.invokevirtual 26, 3) := by decide +kernel
theorem dX2_set_5 : decode cX2_set 5 = .ok (.astore 5, 2) := by decide +kernel
theorem dX2_set_7 : decode cX2_set 7 = .ok (.aload 5, 2) := by decide +kernel
theorem dX2_set_9 : decode cX2_set 9 = .ok (.ifnull 17, 3) := by decide +kernel
theorem dX2_set_12 : decode cX2_set 12 = .ok (.aload 5, 2) := by decide +kernel
theorem dX2_set_14 : decode cX2_set 14 = .ok (.iload_n 2, 1) := by decide +kernel
theorem dX2_set_15 : decode cX2_set 15 = .ok (.lload_n 3, 1) := by decide +kernel
theorem dX2_set_16 : decode cX2_set 16 = .ok (.invokevirtual 30, 3) := by decide +kernel
theorem dX2_set_19 : decode cX2_set 19 = .ok (.ifCond .eq 7, 3) := by decide +kernel
theorem dX2_set_22 : decode cX2_set 22 = .ok (.iconst 1, 1) := by decide +kernel
theorem dX2_set_23 : decode cX2_set 23 = .ok (.goto 4, 3) := by decide +kernel
theorem dX2_set_26 : decode cX2_set 26 = .ok (.iconst 0, 1) := by decide +kernel
theorem dX2_set_27 : decode cX2_set 27 = .ok (.ireturn, 1) := by decide +kernel
set_option maxRecDepth 20000 in
theorem ggX2_bits_X2_find : GoodIn wsX2_bits wsX2_find := goodIn_r _ [5, 6, 7, 17, 18] (by decide +kernel) (by decide +kernel)
set_option maxRecDepth 20000 in
theorem gX2_bits_X2_find : GoodIn wsX2_bits (wsV RX2 26 RX2 yX2_find wsX2_find) := goodIn_app (goodIn_of _ (by decide +kernel)) ggX2_bits_X2_find
set_option maxRecDepth 20000 in
theorem ggX2_bits_X0_number : GoodIn wsX2_bits wsX0_number := goodIn_r _ [11, 12, 13, 14, 15, 16, 19, 20, 21, 22, 23, 24] (by decide +kernel) (by decide +kernel)
set_option maxRecDepth 20000 in
theorem gX2_bits_X0_number_n34 : GoodIn wsX2_bits (wsX0_number) := ggX2_bits_X0_number
theorem dX2_bits_0 : decode cX2_bits 0 = .ok (.aload_n 0, 1) := by decide +kernel
theorem dX2_bits_1 : decode cX2_bits 1 = .ok (.iload_n 1, 1) := by decide +kernel
theorem dX2_bits_2 : decode cX2_bits 2 = .ok (.invokevirtual 26, 3) := by decide +kernel
theorem dX2_bits_5 : decode cX2_bits 5 = .ok (.astore_n 3, 1) := by decide +kernel
theorem dX2_bits_6 : decode cX2_bits 6 = .ok (.aload_n 3, 1) := by decide +kernel
theorem dX2_bits_7 : decode cX2_bits 7 = .ok (.ifnonnull 7, 3) := by decide +kernel
theorem dX2_bits_10 : decode cX2_bits 10 = .ok (.lconst 0, 1) := by decide +kernel
theorem dX2_bits_11 : decode cX2_bits 11 = .ok (.goto 8, 3) := by decide +kernel
theorem dX2_bits_14 : decode cX2_bits 14 = .ok (.aload_n 3, 1) := by decide +kernel
theorem dX2_bits_15 : decode cX2_bits 15 = .ok (.iload_n 2, 1) := by decide +kernel
theorem dX2_bits_16 : decode cX2_bits 16 = .ok (.invokevirtual 34, 3) := by decide +kernel
theorem dX2_bits_19 : decode cX2_bits 19 = .ok (.lreturn, 1) := by decide +kernel
set_option maxRecDepth 20000 in
theorem ggX2_orders_X2_find : GoodIn wsX2_orders wsX2_find := goodIn_r _ [5, 6, 7, 126, 127] (by decide +kernel) (by decide +kernel)
set_option maxRecDepth 20000 in
theorem gX2_orders_X2_find : GoodIn wsX2_orders (wsV RX2 26 RX2 yX2_find wsX2_find) := goodIn_app (goodIn_of _ (by decide +kernel)) ggX2_orders_X2_find
set_option maxRecDepth 20000 in
theorem ggX2_orders_X2_lengthOf : GoodIn wsX2_orders wsX2_lengthOf := goodIn_r _ [10, 11, 12, 4, 13] (by decide +kernel) (by decide +kernel)
set_option maxRecDepth 20000 in
theorem gX2_orders_X2_lengthOf : GoodIn wsX2_orders (va_wsS RX2 38 yX2_lengthOf wsX2_lengthOf) := goodIn_app (goodIn_of _ (by decide +kernel)) ggX2_orders_X2_lengthOf
set_option maxRecDepth 20000 in
theorem ggX2_orders_X2_orderAt : GoodIn wsX2_orders wsX2_orderAt := goodIn_r _ [13] (by decide +kernel) (by decide +kernel)
set_option maxRecDepth 20000 in
theorem gX2_orders_X2_orderAt : GoodIn wsX2_orders (va_wsS RX2 42 yX2_orderAt wsX2_orderAt) := goodIn_app (goodIn_of _ (by decide +kernel)) ggX2_orders_X2_orderAt
set_option maxRecDepth 20000 in
theorem ggX2_orders_X0_obey : GoodIn wsX2_orders wsX0_obey := goodIn_r _ [17, 18, 19, 20, 21, 22, 23, 24, 25, 26, 27, 28, 29, 30, 31, 32, 33, 34, 35, 36, 37, 38, 39, 40, 41, 42, 43, 44, 45, 46, 47, 48, 49, 50, 51, 52, 53, 54, 55, 56, 57, 58, 59, 60, 61, 62, 63, 64, 65, 66, 67, 68, 69, 70, 71, 72, 73, 74, 75, 76, 77, 78, 79, 80, 81, 82, 83, 84, 85, 86, 87, 88, 89, 90, 91, 92, 93, 94, 95, 96, 97, 98, 99, 100, 101, 102, 103, 104, 15, 105, 106, 107, 108, 109, 110, 111, 112, 113, 114, 115, 116, 117, 118, 119, 120, 121, 122, 123, 124, 125, 128, 129, 130, 131, 132, 133] (by decide +kernel) (by decide +kernel)
set_option maxRecDepth 20000 in
theorem gX2_orders_X0_obey_n46 : GoodIn wsX2_orders (wsX0_obey) := ggX2_orders_X0_obey
theorem dX2_orders_0 : decode cX2_orders 0 = .ok (.aload_n 0, 1) := by decide +kernel
theorem dX2_orders_1 : decode cX2_orders 1 = .ok (.iload_n 1, 1) := by decide +kernel
theorem dX2_orders_2 : decode cX2_orders 2 = .ok (.invokevirtual 26, 3) := by decide +kernel
theorem dX2_orders_5 : decode cX2_orders 5 = .ok (.astore_n 3, 1) := by decide +kernel
theorem dX2_orders_6 : decode cX2_orders 6 = .ok (.iload_n 2, 1) := by decide +kernel
theorem dX2_orders_7 : decode cX2_orders 7 = .ok (.invokestatic 38, 3) := by decide +kernel
theorem dX2_orders_10 : decode cX2_orders 10 = .ok (.istore 4, 2) := by decide +kernel
theorem dX2_orders_12 : decode cX2_orders 12 = .ok (.aload_n 3, 1) := by decide +kernel
theorem dX2_orders_13 : decode cX2_orders 13 = .ok (.ifnull 9, 3) := by decide +kernel
theorem dX2_orders_16 : decode cX2_orders 16 = .ok (.iload 4, 2) := by decide +kernel
theorem dX2_orders_18 : decode cX2_orders 18 = .ok (.iconst (-1), 1) := by decide +kernel
theorem dX2_orders_19 : decode cX2_orders 19 = .ok (.if_icmp .ne 5, 3) := by decide +kernel
theorem dX2_orders_22 : decode cX2_orders 22 = .ok (.iconst (-1), 1) := by decide +kernel
theorem dX2_orders_23 : decode cX2_orders 23 = .ok (.ireturn, 1) := by decide +kernel
theorem dX2_orders_24 : decode cX2_orders 24 = .ok (.iconst 0, 1) := by decide +kernel
theorem dX2_orders_25 : decode cX2_orders 25 = .ok (.istore 5, 2) := by decide +kernel
theorem dX2_orders_27 : decode cX2_orders 27 = .ok (.iload 5, 2) := by decide +kernel
theorem dX2_orders_29 : decode cX2_orders 29 = .ok (.iload 4, 2) := by decide +kernel
theorem dX2_orders_31 : decode cX2_orders 31 = .ok (.if_icmp .ge 19, 3) := by decide +kernel
theorem dX2_orders_34 : decode cX2_orders 34 = .ok (.aload_n 3, 1) := by decide +kernel
theorem dX2_orders_35 : decode cX2_orders 35 = .ok (.iload_n 2, 1) := by decide +kernel
theorem dX2_orders_36 : decode cX2_orders 36 = .ok (.iload 5, 2) := by decide +kernel
theorem dX2_orders_38 : decode cX2_orders 38 = .ok (.invokestatic 42, 3) := by decide +kernel
theorem dX2_orders_41 : decode cX2_orders 41 = .ok (.invokevirtual 46, 3) := by decide +kernel
theorem dX2_orders_44 : decode cX2_orders 44 = .ok (.iinc 5 1, 3) := by decide +kernel
theorem dX2_orders_47 : decode cX2_orders 47 = .ok (.goto (-20), 3) := by decide +kernel
theorem dX2_orders_50 : decode cX2_orders 50 = .ok (.iload 4, 2) := by decide +kernel
theorem dX2_orders_52 : decode cX2_orders 52 = .ok (.ireturn, 1) := by decide +kernel
set_option maxRecDepth 20000 in
theorem ggX2_follow_X2_find : GoodIn wsX2_follow wsX2_find := goodIn_r _ [5, 6, 7, 94, 95] (by decide +kernel) (by decide +kernel)
set_option maxRecDepth 20000 in
theorem gX2_follow_X2_find : GoodIn wsX2_follow (wsV RX2 26 RX2 yX2_find wsX2_find) := goodIn_app (goodIn_of _ (by decide +kernel)) ggX2_follow_X2_find
set_option maxRecDepth 20000 in
theorem ggX2_follow_X0_moveTo : GoodIn wsX2_follow wsX0_moveTo := goodIn_r _ [11, 12, 13, 14, 15, 16, 17, 18, 19, 20, 21, 22, 23, 24, 25, 26, 27, 28, 29, 30, 31, 32, 33, 34, 35, 36, 37, 38, 39, 40, 41, 42, 43, 44, 45, 46, 47, 48, 49, 50, 51, 52, 53, 54, 55, 56, 57, 58, 59, 60, 61, 62, 63, 64, 65, 66, 67, 68, 69, 70, 71, 72, 73, 74, 75, 76, 77, 78, 79, 80, 81, 82, 83, 84, 85, 86, 87, 88, 89, 90, 91, 92, 93, 96, 97, 98, 99, 100, 101] (by decide +kernel) (by decide +kernel)
set_option maxRecDepth 20000 in
theorem gX2_follow_X0_moveTo_n50 : GoodIn wsX2_follow (wsX0_moveTo) := ggX2_follow_X0_moveTo
theorem dX2_follow_0 : decode cX2_follow 0 = .ok (.aload_n 0, 1) := by decide +kernel
theorem dX2_follow_1 : decode cX2_follow 1 = .ok (.iload_n 1, 1) := by decide +kernel
theorem dX2_follow_2 : decode cX2_follow 2 = .ok (.invokevirtual 26, 3) := by decide +kernel
theorem dX2_follow_5 : decode cX2_follow 5 = .ok (.astore_n 3, 1) := by decide +kernel
theorem dX2_follow_6 : decode cX2_follow 6 = .ok (.aload_n 0, 1) := by decide +kernel
theorem dX2_follow_7 : decode cX2_follow 7 = .ok (.iload_n 2, 1) := by decide +kernel
theorem dX2_follow_8 : decode cX2_follow 8 = .ok (.invokevirtual 26, 3) := by decide +kernel
theorem dX2_follow_11 : decode cX2_follow 11 = .ok (.astore 4, 2) := by decide +kernel
theorem dX2_follow_13 : decode cX2_follow 13 = .ok (.aload_n 3, 1) := by decide +kernel
theorem dX2_follow_14 : decode cX2_follow 14 = .ok (.ifnull 8, 3) := by decide +kernel
theorem dX2_follow_17 : decode cX2_follow 17 = .ok (.aload 4, 2) := by decide +kernel
theorem dX2_follow_19 : decode cX2_follow 19 = .ok (.ifnonnull 5, 3) := by decide +kernel
theorem dX2_follow_22 : decode cX2_follow 22 = .ok (.iconst 0, 1) := by decide +kernel
theorem dX2_follow_23 : decode cX2_follow 23 = .ok (.ireturn, 1) := by decide +kernel
theorem dX2_follow_24 : decode cX2_follow 24 = .ok (.aload_n 3, 1) := by decide +kernel
theorem dX2_follow_25 : decode cX2_follow 25 = .ok (.aload 4, 2) := by decide +kernel
theorem dX2_follow_27 : decode cX2_follow 27 = .ok (.invokevirtual 50, 3) := by decide +kernel
theorem dX2_follow_30 : decode cX2_follow 30 = .ok (.iconst 1, 1) := by decide +kernel
theorem dX2_follow_31 : decode cX2_follow 31 = .ok (.ireturn, 1) := by decide +kernel
set_option maxRecDepth 20000 in
theorem ggX2_order_X2_find : GoodIn wsX2_order wsX2_find := goodIn_r _ [5, 6, 7, 29, 30] (by decide +kernel) (by decide +kernel)
set_option maxRecDepth 20000 in
theorem gX2_order_X2_find : GoodIn wsX2_order (wsV RX2 26 RX2 yX2_find wsX2_find) := goodIn_app (goodIn_of _ (by decide +kernel)) ggX2_order_X2_find
set_option maxRecDepth 20000 in
theorem ggX2_order_X1_compared : GoodIn wsX2_order wsX1_compared := goodIn_r _ [11, 12, 13, 14, 9, 15, 16, 17, 18, 19, 20, 21, 22] (by decide +kernel) (by decide +kernel)
set_option maxRecDepth 20000 in
theorem gX2_order_X1_compared_n62 : GoodIn wsX2_order (wsX1_compared) := ggX2_order_X1_compared
theorem dX2_order_0 : decode cX2_order 0 = .ok (.aload_n 0, 1) := by decide +kernel
theorem dX2_order_1 : decode cX2_order 1 = .ok (.iload_n 1, 1) := by decide +kernel
theorem dX2_order_2 : decode cX2_order 2 = .ok (.invokevirtual 26, 3) := by decide +kernel
theorem dX2_order_5 : decode cX2_order 5 = .ok (.astore_n 3, 1) := by decide +kernel
theorem dX2_order_6 : decode cX2_order 6 = .ok (.aload_n 0, 1) := by decide +kernel
theorem dX2_order_7 : decode cX2_order 7 = .ok (.iload_n 2, 1) := by decide +kernel
theorem dX2_order_8 : decode cX2_order 8 = .ok (.invokevirtual 26, 3) := by decide +kernel
theorem dX2_order_11 : decode cX2_order 11 = .ok (.astore 4, 2) := by decide +kernel
theorem dX2_order_13 : decode cX2_order 13 = .ok (.aload_n 3, 1) := by decide +kernel
theorem dX2_order_14 : decode cX2_order 14 = .ok (.ifnull 20, 3) := by decide +kernel
theorem dX2_order_17 : decode cX2_order 17 = .ok (.aload 4, 2) := by decide +kernel
theorem dX2_order_19 : decode cX2_order 19 = .ok (.ifnull 15, 3) := by decide +kernel
theorem dX2_order_22 : decode cX2_order 22 = .ok (.aload_n 3, 1) := by decide +kernel
theorem dX2_order_23 : decode cX2_order 23 = .ok (.getfield 54, 3) := by decide +kernel
theorem dX2_order_26 : decode cX2_order 26 = .ok (.aload 4, 2) := by decide +kernel
theorem dX2_order_28 : decode cX2_order 28 = .ok (.getfield 54, 3) := by decide +kernel
theorem dX2_order_31 : decode cX2_order 31 = .ok (.if_acmp .eq 6, 3) := by decide +kernel
theorem dX2_order_34 : decode cX2_order 34 = .ok (.bipush (-2), 2) := by decide +kernel
theorem dX2_order_36 : decode cX2_order 36 = .ok (.ireturn, 1) := by decide +kernel
theorem dX2_order_37 : decode cX2_order 37 = .ok (.aload_n 3, 1) := by decide +kernel
theorem dX2_order_38 : decode cX2_order 38 = .ok (.getfield 54, 3) := by decide +kernel
theorem dX2_order_41 : decode cX2_order 41 = .ok (.aload_n 3, 1) := by decide +kernel
theorem dX2_order_42 : decode cX2_order 42 = .ok (.getfield 58, 3) := by decide +kernel
theorem dX2_order_45 : decode cX2_order 45 = .ok (.aload 4, 2) := by decide +kernel
theorem dX2_order_47 : decode cX2_order 47 = .ok (.getfield 58, 3) := by decide +kernel
theorem dX2_order_50 : decode cX2_order 50 = .ok (.invokevirtual 62, 3) := by decide +kernel
theorem dX2_order_53 : decode cX2_order 53 = .ok (.ireturn, 1) := by decide +kernel
theorem dX2_find_0 : decode cX2_find 0 = .ok (.iload_n 1, 1) := by decide +kernel
theorem dX2_find_1 : decode cX2_find 1 = .ok (.ifCond .lt 29, 3) := by decide +kernel
theorem dX2_find_4 : decode cX2_find 4 = .ok (.iload_n 1, 1) := by decide +kernel
theorem dX2_find_5 : decode cX2_find 5 = .ok (.aload_n 0, 1) := by decide +kernel
theorem dX2_find_6 : decode cX2_find 6 = .ok (.getfield 15, 3) := by decide +kernel
theorem dX2_find_9 : decode cX2_find 9 = .ok (.if_icmp .ge 21, 3) := by decide +kernel
theorem dX2_find_12 : decode cX2_find 12 = .ok (.iload_n 1, 1) := by decide +kernel
theorem dX2_find_13 : decode cX2_find 13 = .ok (.aload_n 0, 1) := by decide +kernel
theorem dX2_find_14 : decode cX2_find 14 = .ok (.getfield 11, 3) := by decide +kernel
theorem dX2_find_17 : decode cX2_find 17 = .ok (.arraylength, 1) := by decide +kernel
theorem dX2_find_18 : decode cX2_find 18 = .ok (.if_icmp .ge 12, 3) := by decide +kernel
theorem dX2_find_21 : decode cX2_find 21 = .ok (.aload_n 0, 1) := by decide +kernel
theorem dX2_find_22 : decode cX2_find 22 = .ok (.getfield 11, 3) := by decide +kernel
theorem dX2_find_25 : decode cX2_find 25 = .ok (.iload_n 1, 1) := by decide +kernel
theorem dX2_find_26 : decode cX2_find 26 = .ok (.aaload, 1) := by decide +kernel
theorem dX2_find_27 : decode cX2_find 27 = .ok (.goto 4, 3) := by decide +kernel
theorem dX2_find_30 : decode cX2_find 30 = .ok (.aconst_null, 1) := by decide +kernel
theorem dX2_find_31 : decode cX2_find 31 = .ok (.areturn, 1) := by decide +kernel
theorem dX2_orderAt_0 : decode cX2_orderAt 0 = .ok (.iload_n 0, 1) := by decide +kernel
theorem dX2_orderAt_1 : decode cX2_orderAt 1 = .ok (.iload_n 1, 1) := by decide +kernel
theorem dX2_orderAt_2 : decode cX2_orderAt 2 = .ok (.iconst 4, 1) := by decide +kernel
theorem dX2_orderAt_3 : decode cX2_orderAt 3 = .ok (.imul, 1) := by decide +kernel
theorem dX2_orderAt_4 : decode cX2_orderAt 4 = .ok (.iushr, 1) := by decide +kernel
theorem dX2_orderAt_5 : decode cX2_orderAt 5 = .ok (.bipush 15, 2) := by decide +kernel
theorem dX2_orderAt_7 : decode cX2_orderAt 7 = .ok (.iand, 1) := by decide +kernel
theorem dX2_orderAt_8 : decode cX2_orderAt 8 = .ok (.ireturn, 1) := by decide +kernel
set_option maxRecDepth 20000 in
theorem ggX2_lengthOf_X2_orderAt : GoodIn wsX2_lengthOf wsX2_orderAt := goodIn_r _ [4] (by decide +kernel) (by decide +kernel)
set_option maxRecDepth 20000 in
theorem gX2_lengthOf_X2_orderAt : GoodIn wsX2_lengthOf (va_wsS RX2 42 yX2_orderAt wsX2_orderAt) := goodIn_app (goodIn_of _ (by decide +kernel)) ggX2_lengthOf_X2_orderAt
theorem dX2_lengthOf_0 : decode cX2_lengthOf 0 = .ok (.iconst 0, 1) := by decide +kernel
theorem dX2_lengthOf_1 : decode cX2_lengthOf 1 = .ok (.istore_n 1, 1) := by decide +kernel
theorem dX2_lengthOf_2 : decode cX2_lengthOf 2 = .ok (.iload_n 1, 1) := by decide +kernel
theorem dX2_lengthOf_3 : decode cX2_lengthOf 3 = .ok (.bipush 8, 2) := by decide +kernel
theorem dX2_lengthOf_5 : decode cX2_lengthOf 5 = .ok (.if_icmp .ge 29, 3) := by decide +kernel
theorem dX2_lengthOf_8 : decode cX2_lengthOf 8 = .ok (.iload_n 0, 1) := by decide +kernel
theorem dX2_lengthOf_9 : decode cX2_lengthOf 9 = .ok (.iload_n 1, 1) := by decide +kernel
theorem dX2_lengthOf_10 : decode cX2_lengthOf 10 = .ok (.invokestatic 42, 3) := by decide +kernel
theorem dX2_lengthOf_13 : decode cX2_lengthOf 13 = .ok (.istore_n 2, 1) := by decide +kernel
theorem dX2_lengthOf_14 : decode cX2_lengthOf 14 = .ok (.iload_n 2, 1) := by decide +kernel
theorem dX2_lengthOf_15 : decode cX2_lengthOf 15 = .ok (.ifCond .ne 5, 3) := by decide +kernel
theorem dX2_lengthOf_18 : decode cX2_lengthOf 18 = .ok (.iload_n 1, 1) := by decide +kernel
theorem dX2_lengthOf_19 : decode cX2_lengthOf 19 = .ok (.ireturn, 1) := by decide +kernel
theorem dX2_lengthOf_20 : decode cX2_lengthOf 20 = .ok (.iload_n 2, 1) := by decide +kernel
theorem dX2_lengthOf_21 : decode cX2_lengthOf 21 = .ok (.bipush 13, 2) := by decide +kernel
theorem dX2_lengthOf_23 : decode cX2_lengthOf 23 = .ok (.if_icmp .le 5, 3) := by decide +kernel
theorem dX2_lengthOf_26 : decode cX2_lengthOf 26 = .ok (.iconst (-1), 1) := by decide +kernel
theorem dX2_lengthOf_27 : decode cX2_lengthOf 27 = .ok (.ireturn, 1) := by decide +kernel
theorem dX2_lengthOf_28 : decode cX2_lengthOf 28 = .ok (.iinc 1 1, 3) := by decide +kernel
theorem dX2_lengthOf_31 : decode cX2_lengthOf 31 = .ok (.goto (-29), 3) := by decide +kernel
theorem dX2_lengthOf_34 : decode cX2_lengthOf 34 = .ok (.bipush 8, 2) := by decide +kernel
theorem dX2_lengthOf_36 : decode cX2_lengthOf 36 = .ok (.ireturn, 1) := by decide +kernel
theorem dX3_init_0 : decode cX3_init 0 = .ok (.aload_n 0, 1) := by decide +kernel
theorem dX3_init_1 : decode cX3_init 1 = .ok (.invokespecial 1, 3) := by decide +kernel
theorem dX3_init_4 : decode cX3_init 4 = .ok (.aload_n 0, 1) := by decide +kernel
theorem dX3_init_5 : decode cX3_init 5 = .ok (.bipush 8, 2) := by decide +kernel
theorem dX3_init_7 : decode cX3_init 7 = .ok (.newarray .int, 2) := by decide +kernel
theorem dX3_init_9 : decode cX3_init 9 = .ok (.putfield 7, 3) := by decide +kernel
theorem dX3_init_12 : decode cX3_init 12 = .ok (.aload_n 0, 1) := by decide +kernel
theorem dX3_init_13 : decode cX3_init 13 = .ok (.bipush 40, 2) := by decide +kernel
theorem dX3_init_15 : decode cX3_init 15 = .ok (.newarray .long, 2) := by decide +kernel
theorem dX3_init_17 : decode cX3_init 17 = .ok (.putfield 13, 3) := by decide +kernel
theorem dX3_init_20 : decode cX3_init 20 = .ok (.return_, 1) := by decide +kernel
theorem dX3_isAxis_0 : decode cX3_isAxis 0 = .ok (.iload_n 1, 1) := by decide +kernel
theorem dX3_isAxis_1 : decode cX3_isAxis 1 = .ok (.ifCond .lt 15, 3) := by decide +kernel
theorem dX3_isAxis_4 : decode cX3_isAxis 4 = .ok (.iload_n 1, 1) := by decide +kernel
theorem dX3_isAxis_5 : decode cX3_isAxis 5 = .ok (.aload_n 0, 1) := by decide +kernel
theorem dX3_isAxis_6 : decode cX3_isAxis 6 = .ok (.getfield 17, 3) := by decide +kernel
theorem dX3_isAxis_9 : decode cX3_isAxis 9 = .ok (.if_icmp .ge 7, 3) := by decide +kernel
theorem dX3_isAxis_12 : decode cX3_isAxis 12 = .ok (.iconst 1, 1) := by decide +kernel
theorem dX3_isAxis_13 : decode cX3_isAxis 13 = .ok (.goto 4, 3) := by decide +kernel
theorem dX3_isAxis_16 : decode cX3_isAxis 16 = .ok (.iconst 0, 1) := by decide +kernel
theorem dX3_isAxis_17 : decode cX3_isAxis 17 = .ok (.ireturn, 1) := by decide +kernel
theorem dX3_isFloating_0 : decode cX3_isFloating 0 = .ok (.iload_n 0, 1) := by decide +kernel
theorem dX3_isFloating_1 : decode cX3_isFloating 1 = .ok (.iconst 2, 1) := by decide +kernel
theorem dX3_isFloating_2 : decode cX3_isFloating 2 = .ok (.if_icmp .lt 7, 3) := by decide +kernel
theorem dX3_isFloating_5 : decode cX3_isFloating 5 = .ok (.iconst 1, 1) := by decide +kernel
theorem dX3_isFloating_6 : decode cX3_isFloating 6 = .ok (.goto 4, 3) := by decide +kernel
theorem dX3_isFloating_9 : decode cX3_isFloating 9 = .ok (.iconst 0, 1) := by decide +kernel
theorem dX3_isFloating_10 : decode cX3_isFloating 10 = .ok (.ireturn, 1) := by decide +kernel
theorem dX3_fractionOf_0 : decode cX3_fractionOf 0 = .ok (.iload_n 0, 1) := by decide +kernel
theorem dX3_fractionOf_1 : decode cX3_fractionOf 1 = .ok (.iconst 2, 1) := by decide +kernel
theorem dX3_fractionOf_2 : decode cX3_fractionOf 2 = .ok (.if_icmp .ne 8, 3) := by decide +kernel
theorem dX3_fractionOf_5 : decode cX3_fractionOf 5 = .ok (.bipush 23, 2) := by decide +kernel
theorem dX3_fractionOf_7 : decode cX3_fractionOf 7 = .ok (.goto 5, 3) := by decide +kernel
theorem dX3_fractionOf_10 : decode cX3_fractionOf 10 = .ok (.bipush 52, 2) := by decide +kernel
theorem dX3_fractionOf_12 : decode cX3_fractionOf 12 = .ok (.ireturn, 1) := by decide +kernel
theorem dX3_endless_0 : decode cX3_endless 0 = .ok (.iload_n 0, 1) := by decide +kernel
theorem dX3_endless_1 : decode cX3_endless 1 = .ok (.iconst 2, 1) := by decide +kernel
theorem dX3_endless_2 : decode cX3_endless 2 = .ok (.if_icmp .ne 9, 3) := by decide +kernel
theorem dX3_endless_5 : decode cX3_endless 5 = .ok (.ldc2_w 21, 3) := by decide +kernel
theorem dX3_endless_8 : decode cX3_endless 8 = .ok (.goto 6, 3) := by decide +kernel
theorem dX3_endless_11 : decode cX3_endless 11 = .ok (.ldc2_w 23, 3) := by decide +kernel
theorem dX3_endless_14 : decode cX3_endless 14 = .ok (.lreturn, 1) := by decide +kernel
theorem dX3_size_0 : decode cX3_size 0 = .ok (.iload_n 0, 1) := by decide +kernel
theorem dX3_size_1 : decode cX3_size 1 = .ok (.iconst 2, 1) := by decide +kernel
theorem dX3_size_2 : decode cX3_size 2 = .ok (.if_icmp .ne 11, 3) := by decide +kernel
theorem dX3_size_5 : decode cX3_size 5 = .ok (.lload_n 1, 1) := by decide +kernel
theorem dX3_size_6 : decode cX3_size 6 = .ok (.ldc2_w 25, 3) := by decide +kernel
theorem dX3_size_9 : decode cX3_size 9 = .ok (.land, 1) := by decide +kernel
theorem dX3_size_10 : decode cX3_size 10 = .ok (.goto 8, 3) := by decide +kernel
theorem dX3_size_13 : decode cX3_size 13 = .ok (.lload_n 1, 1) := by decide +kernel
theorem dX3_size_14 : decode cX3_size 14 = .ok (.ldc2_w 27, 3) := by decide +kernel
theorem dX3_size_17 : decode cX3_size 17 = .ok (.land, 1) := by decide +kernel
theorem dX3_size_18 : decode cX3_size 18 = .ok (.lreturn, 1) := by decide +kernel
theorem dX3_signed_0 : decode cX3_signed 0 = .ok (.iload_n 0, 1) := by decide +kernel
theorem dX3_signed_1 : decode cX3_signed 1 = .ok (.iconst 2, 1) := by decide +kernel
theorem dX3_signed_2 : decode cX3_signed 2 = .ok (.if_icmp .ne 19, 3) := by decide +kernel
theorem dX3_signed_5 : decode cX3_signed 5 = .ok (.iload_n 3, 1) := by decide +kernel
theorem dX3_signed_6 : decode cX3_signed 6 = .ok (.ifCond .eq 13, 3) := by decide +kernel
theorem dX3_signed_9 : decode cX3_signed 9 = .ok (.lload_n 1, 1) := by decide +kernel
theorem dX3_signed_10 : decode cX3_signed 10 = .ok (.ldc2_w 29, 3) := by decide +kernel
theorem dX3_signed_13 : decode cX3_signed 13 = .ok (.lor, 1) := by decide +kernel
theorem dX3_signed_14 : decode cX3_signed 14 = .ok (.l2i, 1) := by decide +kernel
theorem dX3_signed_15 : decode cX3_signed 15 = .ok (.i2l, 1) := by decide +kernel
theorem dX3_signed_16 : decode cX3_signed 16 = .ok (.goto 4, 3) := by decide +kernel
theorem dX3_signed_19 : decode cX3_signed 19 = .ok (.lload_n 1, 1) := by decide +kernel
theorem dX3_signed_20 : decode cX3_signed 20 = .ok (.lreturn, 1) := by decide +kernel
theorem dX3_signed_21 : decode cX3_signed 21 = .ok (.iload_n 3, 1) := by decide +kernel
theorem dX3_signed_22 : decode cX3_signed 22 = .ok (.ifCond .eq 11, 3) := by decide +kernel
theorem dX3_signed_25 : decode cX3_signed 25 = .ok (.lload_n 1, 1) := by decide +kernel
theorem dX3_signed_26 : decode cX3_signed 26 = .ok (.ldc2_w 31, 3) := by decide +kernel
theorem dX3_signed_29 : decode cX3_signed 29 = .ok (.lor, 1) := by decide +kernel
theorem dX3_signed_30 : decode cX3_signed 30 = .ok (.goto 4, 3) := by decide +kernel
theorem dX3_signed_33 : decode cX3_signed 33 = .ok (.lload_n 1, 1) := by decide +kernel
theorem dX3_signed_34 : decode cX3_signed 34 = .ok (.lreturn, 1) := by decide +kernel
theorem dX3_one_0 : decode cX3_one 0 = .ok (.iload_n 0, 1) := by decide +kernel
theorem dX3_one_1 : decode cX3_one 1 = .ok (.iconst 2, 1) := by decide +kernel
theorem dX3_one_2 : decode cX3_one 2 = .ok (.if_icmp .ne 9, 3) := by decide +kernel
theorem dX3_one_5 : decode cX3_one 5 = .ok (.ldc2_w 33, 3) := by decide +kernel
theorem dX3_one_8 : decode cX3_one 8 = .ok (.goto 6, 3) := by decide +kernel
theorem dX3_one_11 : decode cX3_one 11 = .ok (.ldc2_w 35, 3) := by decide +kernel
theorem dX3_one_14 : decode cX3_one 14 = .ok (.lreturn, 1) := by decide +kernel
set_option maxRecDepth 20000 in
theorem ggX3_rank_X3_isFloating : GoodIn wsX3_rank wsX3_isFloating := goodIn_r _ [5] (by decide +kernel) (by decide +kernel)
set_option maxRecDepth 20000 in
theorem gX3_rank_X3_isFloating : GoodIn wsX3_rank (va_wsS RX3 37 yX3_isFloating wsX3_isFloating) := goodIn_app (goodIn_of _ (by decide +kernel)) ggX3_rank_X3_isFloating
set_option maxRecDepth 20000 in
theorem ggX3_rank_X3_size : GoodIn wsX3_rank wsX3_size := goodIn_r _ [8, 9, 10] (by decide +kernel) (by decide +kernel)
set_option maxRecDepth 20000 in
theorem gX3_rank_X3_size : GoodIn wsX3_rank (va_wsS RX3 43 yX3_size wsX3_size) := goodIn_app (goodIn_of _ (by decide +kernel)) ggX3_rank_X3_size
theorem dX3_rank_0 : decode cX3_rank 0 = .ok (.iload_n 0, 1) := by decide +kernel
theorem dX3_rank_1 : decode cX3_rank 1 = .ok (.invokestatic 37, 3) := by decide +kernel
theorem dX3_rank_4 : decode cX3_rank 4 = .ok (.ifCond .eq 21, 3) := by decide +kernel
theorem dX3_rank_7 : decode cX3_rank 7 = .ok (.lload_n 1, 1) := by decide +kernel
theorem dX3_rank_8 : decode cX3_rank 8 = .ok (.lconst 0, 1) := by decide +kernel
theorem dX3_rank_9 : decode cX3_rank 9 = .ok (.lcmp, 1) := by decide +kernel
theorem dX3_rank_10 : decode cX3_rank 10 = .ok (.ifCond .ge 15, 3) := by decide +kernel
theorem dX3_rank_13 : decode cX3_rank 13 = .ok (.ldc2_w 41, 3) := by decide +kernel
theorem dX3_rank_16 : decode cX3_rank 16 = .ok (.iload_n 0, 1) := by decide +kernel
theorem dX3_rank_17 : decode cX3_rank 17 = .ok (.lload_n 1, 1) := by decide +kernel
theorem dX3_rank_18 : decode cX3_rank 18 = .ok (.invokestatic 43, 3) := by decide +kernel
theorem dX3_rank_21 : decode cX3_rank 21 = .ok (.lsub, 1) := by decide +kernel
theorem dX3_rank_22 : decode cX3_rank 22 = .ok (.goto 4, 3) := by decide +kernel
theorem dX3_rank_25 : decode cX3_rank 25 = .ok (.lload_n 1, 1) := by decide +kernel
theorem dX3_rank_26 : decode cX3_rank 26 = .ok (.lreturn, 1) := by decide +kernel
set_option maxRecDepth 20000 in
theorem ggX3_isLess_X3_rank : GoodIn wsX3_isLess wsX3_rank := goodIn_r _ [4, 5, 6, 7, 3, 8, 9, 10, 11, 12, 13] (by decide +kernel) (by decide +kernel)
set_option maxRecDepth 20000 in
theorem gX3_isLess_X3_rank : GoodIn wsX3_isLess (va_wsS RX3 47 yX3_rank wsX3_rank) := goodIn_app (goodIn_of _ (by decide +kernel)) ggX3_isLess_X3_rank
theorem dX3_isLess_0 : decode cX3_isLess 0 = .ok (.iload_n 0, 1) := by decide +kernel
theorem dX3_isLess_1 : decode cX3_isLess 1 = .ok (.lload_n 1, 1) := by decide +kernel
theorem dX3_isLess_2 : decode cX3_isLess 2 = .ok (.invokestatic 47, 3) := by decide +kernel
theorem dX3_isLess_5 : decode cX3_isLess 5 = .ok (.iload_n 0, 1) := by decide +kernel
theorem dX3_isLess_6 : decode cX3_isLess 6 = .ok (.lload_n 3, 1) := by decide +kernel
theorem dX3_isLess_7 : decode cX3_isLess 7 = .ok (.invokestatic 47, 3) := by decide +kernel
theorem dX3_isLess_10 : decode cX3_isLess 10 = .ok (.lcmp, 1) := by decide +kernel
theorem dX3_isLess_11 : decode cX3_isLess 11 = .ok (.ifCond .ge 7, 3) := by decide +kernel
theorem dX3_isLess_14 : decode cX3_isLess 14 = .ok (.iconst 1, 1) := by decide +kernel
theorem dX3_isLess_15 : decode cX3_isLess 15 = .ok (.goto 4, 3) := by decide +kernel
theorem dX3_isLess_18 : decode cX3_isLess 18 = .ok (.iconst 0, 1) := by decide +kernel
theorem dX3_isLess_19 : decode cX3_isLess 19 = .ok (.ireturn, 1) := by decide +kernel
set_option maxRecDepth 20000 in
theorem ggX3_lesser_X3_isLess : GoodIn wsX3_lesser wsX3_isLess := goodIn_r _ [4, 5, 6, 3, 7, 8, 9, 10, 11, 12, 13, 14, 15, 16] (by decide +kernel) (by decide +kernel)
set_option maxRecDepth 20000 in
theorem gX3_lesser_X3_isLess : GoodIn wsX3_lesser (va_wsS RX3 50 yX3_isLess wsX3_isLess) := goodIn_app (goodIn_of _ (by decide +kernel)) ggX3_lesser_X3_isLess
theorem dX3_lesser_0 : decode cX3_lesser 0 = .ok (.iload_n 0, 1) := by decide +kernel
theorem dX3_lesser_1 : decode cX3_lesser 1 = .ok (.lload_n 3, 1) := by decide +kernel
theorem dX3_lesser_2 : decode cX3_lesser 2 = .ok (.lload_n 1, 1) := by decide +kernel
theorem dX3_lesser_3 : decode cX3_lesser 3 = .ok (.invokestatic 50, 3) := by decide +kernel
theorem dX3_lesser_6 : decode cX3_lesser 6 = .ok (.ifCond .eq 7, 3) := by decide +kernel
theorem dX3_lesser_9 : decode cX3_lesser 9 = .ok (.lload_n 3, 1) := by decide +kernel
theorem dX3_lesser_10 : decode cX3_lesser 10 = .ok (.goto 4, 3) := by decide +kernel
theorem dX3_lesser_13 : decode cX3_lesser 13 = .ok (.lload_n 1, 1) := by decide +kernel
theorem dX3_lesser_14 : decode cX3_lesser 14 = .ok (.lreturn, 1) := by decide +kernel
set_option maxRecDepth 20000 in
theorem ggX3_greater_X3_isLess : GoodIn wsX3_greater wsX3_isLess := goodIn_r _ [4, 5, 6, 3, 7, 8, 9, 10, 11, 12, 13, 14, 15, 16] (by decide +kernel) (by decide +kernel)
set_option maxRecDepth 20000 in
theorem gX3_greater_X3_isLess : GoodIn wsX3_greater (va_wsS RX3 50 yX3_isLess wsX3_isLess) := goodIn_app (goodIn_of _ (by decide +kernel)) ggX3_greater_X3_isLess
theorem dX3_greater_0 : decode cX3_greater 0 = .ok (.iload_n 0, 1) := by decide +kernel
theorem dX3_greater_1 : decode cX3_greater 1 = .ok (.lload_n 1, 1) := by decide +kernel
theorem dX3_greater_2 : decode cX3_greater 2 = .ok (.lload_n 3, 1) := by decide +kernel
theorem dX3_greater_3 : decode cX3_greater 3 = .ok (.invokestatic 50, 3) := by decide +kernel
theorem dX3_greater_6 : decode cX3_greater 6 = .ok (.ifCond .eq 7, 3) := by decide +kernel
theorem dX3_greater_9 : decode cX3_greater 9 = .ok (.lload_n 3, 1) := by decide +kernel
theorem dX3_greater_10 : decode cX3_greater 10 = .ok (.goto 4, 3) := by decide +kernel
theorem dX3_greater_13 : decode cX3_greater 13 = .ok (.lload_n 1, 1) := by decide +kernel
theorem dX3_greater_14 : decode cX3_greater 14 = .ok (.lreturn, 1) := by decide +kernel
set_option maxRecDepth 20000 in
theorem ggX3_sized_X3_isFloating : GoodIn wsX3_sized wsX3_isFloating := goodIn_r _ [4] (by decide +kernel) (by decide +kernel)
set_option maxRecDepth 20000 in
theorem gX3_sized_X3_isFloating : GoodIn wsX3_sized (va_wsS RX3 37 yX3_isFloating wsX3_isFloating) := goodIn_app (goodIn_of _ (by decide +kernel)) ggX3_sized_X3_isFloating
set_option maxRecDepth 20000 in
theorem ggX3_sized_X3_size : GoodIn wsX3_sized wsX3_size := goodIn_r _ [7, 8, 9] (by decide +kernel) (by decide +kernel)
set_option maxRecDepth 20000 in
theorem gX3_sized_X3_size : GoodIn wsX3_sized (va_wsS RX3 43 yX3_size wsX3_size) := goodIn_app (goodIn_of _ (by decide +kernel)) ggX3_sized_X3_size
theorem dX3_sized_0 : decode cX3_sized 0 = .ok (.iload_n 0, 1) := by decide +kernel
theorem dX3_sized_1 : decode cX3_sized 1 = .ok (.invokestatic 37, 3) := by decide +kernel
theorem dX3_sized_4 : decode cX3_sized 4 = .ok (.ifCond .eq 9, 3) := by decide +kernel
theorem dX3_sized_7 : decode cX3_sized 7 = .ok (.iload_n 0, 1) := by decide +kernel
theorem dX3_sized_8 : decode cX3_sized 8 = .ok (.lload_n 1, 1) := by decide +kernel
theorem dX3_sized_9 : decode cX3_sized 9 = .ok (.invokestatic 43, 3) := by decide +kernel
theorem dX3_sized_12 : decode cX3_sized 12 = .ok (.lreturn, 1) := by decide +kernel
theorem dX3_sized_13 : decode cX3_sized 13 = .ok (.lload_n 1, 1) := by decide +kernel
theorem dX3_sized_14 : decode cX3_sized 14 = .ok (.lconst 0, 1) := by decide +kernel
theorem dX3_sized_15 : decode cX3_sized 15 = .ok (.lcmp, 1) := by decide +kernel
theorem dX3_sized_16 : decode cX3_sized 16 = .ok (.ifCond .lt 7, 3) := by decide +kernel
theorem dX3_sized_19 : decode cX3_sized 19 = .ok (.lload_n 1, 1) := by decide +kernel
theorem dX3_sized_20 : decode cX3_sized 20 = .ok (.goto 16, 3) := by decide +kernel
theorem dX3_sized_23 : decode cX3_sized 23 = .ok (.iload_n 0, 1) := by decide +kernel
theorem dX3_sized_24 : decode cX3_sized 24 = .ok (.ifCond .ne 10, 3) := by decide +kernel
theorem dX3_sized_27 : decode cX3_sized 27 = .ok (.lload_n 1, 1) := by decide +kernel
theorem dX3_sized_28 : decode cX3_sized 28 = .ok (.lneg, 1) := by decide +kernel
theorem dX3_sized_29 : decode cX3_sized 29 = .ok (.l2i, 1) := by decide +kernel
theorem dX3_sized_30 : decode cX3_sized 30 = .ok (.i2l, 1) := by decide +kernel
theorem dX3_sized_31 : decode cX3_sized 31 = .ok (.goto 5, 3) := by decide +kernel
theorem dX3_sized_34 : decode cX3_sized 34 = .ok (.lload_n 1, 1) := by decide +kernel
theorem dX3_sized_35 : decode cX3_sized 35 = .ok (.lneg, 1) := by decide +kernel
theorem dX3_sized_36 : decode cX3_sized 36 = .ok (.lreturn, 1) := by decide +kernel
set_option maxRecDepth 20000 in
theorem ggX3_stepped_X3_isFloating : GoodIn wsX3_stepped wsX3_isFloating := goodIn_r _ [5] (by decide +kernel) (by decide +kernel)
set_option maxRecDepth 20000 in
theorem gX3_stepped_X3_isFloating : GoodIn wsX3_stepped (va_wsS RX3 37 yX3_isFloating wsX3_isFloating) := goodIn_app (goodIn_of _ (by decide +kernel)) ggX3_stepped_X3_isFloating
set_option maxRecDepth 20000 in
theorem ggX3_stepped_X3_fractionOf : GoodIn wsX3_stepped wsX3_fractionOf := goodIn_r _ [8] (by decide +kernel) (by decide +kernel)
set_option maxRecDepth 20000 in
theorem gX3_stepped_X3_fractionOf : GoodIn wsX3_stepped (va_wsS RX3 54 yX3_fractionOf wsX3_fractionOf) := goodIn_app (goodIn_of _ (by decide +kernel)) ggX3_stepped_X3_fractionOf
set_option maxRecDepth 20000 in
theorem ggX3_stepped_X3_size : GoodIn wsX3_stepped wsX3_size := goodIn_r _ [11, 12, 13] (by decide +kernel) (by decide +kernel)
set_option maxRecDepth 20000 in
theorem gX3_stepped_X3_size : GoodIn wsX3_stepped (va_wsS RX3 43 yX3_size wsX3_size) := goodIn_app (goodIn_of _ (by decide +kernel)) ggX3_stepped_X3_size
set_option maxRecDepth 20000 in
theorem ggX3_stepped_X3_one : GoodIn wsX3_stepped wsX3_one := goodIn_r _ [16, 17, 18] (by decide +kernel) (by decide +kernel)
set_option maxRecDepth 20000 in
theorem gX3_stepped_X3_one : GoodIn wsX3_stepped (va_wsS RX3 58 yX3_one wsX3_one) := goodIn_app (goodIn_of _ (by decide +kernel)) ggX3_stepped_X3_one
set_option maxRecDepth 20000 in
theorem ggX3_stepped_X3_signed : GoodIn wsX3_stepped wsX3_signed := goodIn_r _ [21, 22, 23] (by decide +kernel) (by decide +kernel)
set_option maxRecDepth 20000 in
theorem gX3_stepped_X3_signed : GoodIn wsX3_stepped (va_wsS RX3 62 yX3_signed wsX3_signed) := goodIn_app (goodIn_of _ (by decide +kernel)) ggX3_stepped_X3_signed
theorem dX3_stepped_0 : decode cX3_stepped 0 = .ok (.iload_n 0, 1) := by decide +kernel
theorem dX3_stepped_1 : decode cX3_stepped 1 = .ok (.invokestatic 37, 3) := by decide +kernel
theorem dX3_stepped_4 : decode cX3_stepped 4 = .ok (.ifCond .ne 5, 3) := by decide +kernel
theorem dX3_stepped_7 : decode cX3_stepped 7 = .ok (.lload_n 1, 1) := by decide +kernel
theorem dX3_stepped_8 : decode cX3_stepped 8 = .ok (.lreturn, 1) := by decide +kernel
theorem dX3_stepped_9 : decode cX3_stepped 9 = .ok (.iload_n 0, 1) := by decide +kernel
theorem dX3_stepped_10 : decode cX3_stepped 10 = .ok (.invokestatic 54, 3) := by decide +kernel
theorem dX3_stepped_13 : decode cX3_stepped 13 = .ok (.istore 4, 2) := by decide +kernel
theorem dX3_stepped_15 : decode cX3_stepped 15 = .ok (.iload_n 0, 1) := by decide +kernel
theorem dX3_stepped_16 : decode cX3_stepped 16 = .ok (.iconst 2, 1) := by decide +kernel
theorem dX3_stepped_17 : decode cX3_stepped 17 = .ok (.if_icmp .ne 8, 3) := by decide +kernel
theorem dX3_stepped_20 : decode cX3_stepped 20 = .ok (.bipush 127, 2) := by decide +kernel
theorem dX3_stepped_22 : decode cX3_stepped 22 = .ok (.goto 6, 3) := by decide +kernel
theorem dX3_stepped_25 : decode cX3_stepped 25 = .ok (.sipush 1023, 3) := by decide +kernel
theorem dX3_stepped_28 : decode cX3_stepped 28 = .ok (.istore 5, 2) := by decide +kernel
theorem dX3_stepped_30 : decode cX3_stepped 30 = .ok (.iload_n 0, 1) := by decide +kernel
theorem dX3_stepped_31 : decode cX3_stepped 31 = .ok (.lload_n 1, 1) := by decide +kernel
theorem dX3_stepped_32 : decode cX3_stepped 32 = .ok (.invokestatic 43, 3) := by decide +kernel
theorem dX3_stepped_35 : decode cX3_stepped 35 = .ok (.lstore 6, 2) := by decide +kernel
theorem dX3_stepped_37 : decode cX3_stepped 37 = .ok (.lload 6, 2) := by decide +kernel
theorem dX3_stepped_39 : decode cX3_stepped 39 = .ok (.iload 4, 2) := by decide +kernel
theorem dX3_stepped_41 : decode cX3_stepped 41 = .ok (.lushr, 1) := by decide +kernel
theorem dX3_stepped_42 : decode cX3_stepped 42 = .ok (.l2i, 1) := by decide +kernel
theorem dX3_stepped_43 : decode cX3_stepped 43 = .ok (.iload 5, 2) := by decide +kernel
theorem dX3_stepped_45 : decode cX3_stepped 45 = .ok (.isub, 1) := by decide +kernel
theorem dX3_stepped_46 : decode cX3_stepped 46 = .ok (.istore 8, 2) := by decide +kernel
theorem dX3_stepped_48 : decode cX3_stepped 48 = .ok (.lload 6, 2) := by decide +kernel
theorem dX3_stepped_50 : decode cX3_stepped 50 = .ok (.lconst 0, 1) := by decide +kernel
theorem dX3_stepped_51 : decode cX3_stepped 51 = .ok (.lcmp, 1) := by decide +kernel
theorem dX3_stepped_52 : decode cX3_stepped 52 = .ok (.ifCond .eq 10, 3) := by decide +kernel
theorem dX3_stepped_55 : decode cX3_stepped 55 = .ok (.iload 8, 2) := by decide +kernel
theorem dX3_stepped_57 : decode cX3_stepped 57 = .ok (.iload 4, 2) := by decide +kernel
theorem dX3_stepped_59 : decode cX3_stepped 59 = .ok (.if_icmp .lt 5, 3) := by decide +kernel
theorem dX3_stepped_62 : decode cX3_stepped 62 = .ok (.lload_n 1, 1) := by decide +kernel
theorem dX3_stepped_63 : decode cX3_stepped 63 = .ok (.lreturn, 1) := by decide +kernel
theorem dX3_stepped_64 : decode cX3_stepped 64 = .ok (.iload_n 3, 1) := by decide +kernel
theorem dX3_stepped_65 : decode cX3_stepped 65 = .ok (.ifCond .ne 17, 3) := by decide +kernel
theorem dX3_stepped_68 : decode cX3_stepped 68 = .ok (.lload_n 1, 1) := by decide +kernel
theorem dX3_stepped_69 : decode cX3_stepped 69 = .ok (.lconst 0, 1) := by decide +kernel
theorem dX3_stepped_70 : decode cX3_stepped 70 = .ok (.lcmp, 1) := by decide +kernel
theorem dX3_stepped_71 : decode cX3_stepped 71 = .ok (.ifCond .ge 7, 3) := by decide +kernel
theorem dX3_stepped_74 : decode cX3_stepped 74 = .ok (.iconst 1, 1) := by decide +kernel
theorem dX3_stepped_75 : decode cX3_stepped 75 = .ok (.goto 18, 3) := by decide +kernel
theorem dX3_stepped_78 : decode cX3_stepped 78 = .ok (.iconst 0, 1) := by decide +kernel
theorem dX3_stepped_79 : decode cX3_stepped 79 = .ok (.goto 14, 3) := by decide +kernel
theorem dX3_stepped_82 : decode cX3_stepped 82 = .ok (.lload_n 1, 1) := by decide +kernel
theorem dX3_stepped_83 : decode cX3_stepped 83 = .ok (.lconst 0, 1) := by decide +kernel
theorem dX3_stepped_84 : decode cX3_stepped 84 = .ok (.lcmp, 1) := by decide +kernel
theorem dX3_stepped_85 : decode cX3_stepped 85 = .ok (.ifCond .lt 7, 3) := by decide +kernel
theorem dX3_stepped_88 : decode cX3_stepped 88 = .ok (.iconst 1, 1) := by decide +kernel
theorem dX3_stepped_89 : decode cX3_stepped 89 = .ok (.goto 4, 3) := by decide +kernel
theorem dX3_stepped_92 : decode cX3_stepped 92 = .ok (.iconst 0, 1) := by decide +kernel
theorem dX3_stepped_93 : decode cX3_stepped 93 = .ok (.istore 9, 2) := by decide +kernel
theorem dX3_stepped_95 : decode cX3_stepped 95 = .ok (.iload 8, 2) := by decide +kernel
theorem dX3_stepped_97 : decode cX3_stepped 97 = .ok (.ifCond .ge 64, 3) := by decide +kernel
theorem dX3_stepped_100 : decode cX3_stepped 100 = .ok (.iload_n 3, 1) := by decide +kernel
theorem dX3_stepped_101 : decode cX3_stepped 101 = .ok (.iconst 2, 1) := by decide +kernel
theorem dX3_stepped_102 : decode cX3_stepped 102 = .ok (.if_icmp .ne 30, 3) := by decide +kernel
theorem dX3_stepped_105 : decode cX3_stepped 105 = .ok (.iload 8, 2) := by decide +kernel
theorem dX3_stepped_107 : decode cX3_stepped 107 = .ok (.iconst (-1), 1) := by decide +kernel
theorem dX3_stepped_108 : decode cX3_stepped 108 = .ok (.if_icmp .ne 21, 3) := by decide +kernel
theorem dX3_stepped_111 : decode cX3_stepped 111 = .ok (.lload 6, 2) := by decide +kernel
theorem dX3_stepped_113 : decode cX3_stepped 113 = .ok (.iload 5, 2) := by decide +kernel
theorem dX3_stepped_115 : decode cX3_stepped 115 = .ok (.iconst 1, 1) := by decide +kernel
theorem dX3_stepped_116 : decode cX3_stepped 116 = .ok (.isub, 1) := by decide +kernel
theorem dX3_stepped_117 : decode cX3_stepped 117 = .ok (.i2l, 1) := by decide +kernel
theorem dX3_stepped_118 : decode cX3_stepped 118 = .ok (.iload 4, 2) := by decide +kernel
theorem dX3_stepped_120 : decode cX3_stepped 120 = .ok (.lshl, 1) := by decide +kernel
theorem dX3_stepped_121 : decode cX3_stepped 121 = .ok (.lcmp, 1) := by decide +kernel
theorem dX3_stepped_122 : decode cX3_stepped 122 = .ok (.ifCond .le 7, 3) := by decide +kernel
theorem dX3_stepped_125 : decode cX3_stepped 125 = .ok (.iconst 1, 1) := by decide +kernel
theorem dX3_stepped_126 : decode cX3_stepped 126 = .ok (.goto 4, 3) := by decide +kernel
theorem dX3_stepped_129 : decode cX3_stepped 129 = .ok (.iconst 0, 1) := by decide +kernel
theorem dX3_stepped_130 : decode cX3_stepped 130 = .ok (.istore 9, 2) := by decide +kernel
theorem dX3_stepped_132 : decode cX3_stepped 132 = .ok (.iload_n 0, 1) := by decide +kernel
theorem dX3_stepped_133 : decode cX3_stepped 133 = .ok (.iload 9, 2) := by decide +kernel
theorem dX3_stepped_135 : decode cX3_stepped 135 = .ok (.ifCond .eq 10, 3) := by decide +kernel
theorem dX3_stepped_138 : decode cX3_stepped 138 = .ok (.iload_n 0, 1) := by decide +kernel
theorem dX3_stepped_139 : decode cX3_stepped 139 = .ok (.invokestatic 58, 3) := by decide +kernel
theorem dX3_stepped_142 : decode cX3_stepped 142 = .ok (.goto 4, 3) := by decide +kernel
theorem dX3_stepped_145 : decode cX3_stepped 145 = .ok (.lconst 0, 1) := by decide +kernel
theorem dX3_stepped_146 : decode cX3_stepped 146 = .ok (.lload_n 1, 1) := by decide +kernel
theorem dX3_stepped_147 : decode cX3_stepped 147 = .ok (.lconst 0, 1) := by decide +kernel
theorem dX3_stepped_148 : decode cX3_stepped 148 = .ok (.lcmp, 1) := by decide +kernel
theorem dX3_stepped_149 : decode cX3_stepped 149 = .ok (.ifCond .ge 7, 3) := by decide +kernel
theorem dX3_stepped_152 : decode cX3_stepped 152 = .ok (.iconst 1, 1) := by decide +kernel
theorem dX3_stepped_153 : decode cX3_stepped 153 = .ok (.goto 4, 3) := by decide +kernel
theorem dX3_stepped_156 : decode cX3_stepped 156 = .ok (.iconst 0, 1) := by decide +kernel
theorem dX3_stepped_157 : decode cX3_stepped 157 = .ok (.invokestatic 62, 3) := by decide +kernel
theorem dX3_stepped_160 : decode cX3_stepped 160 = .ok (.lreturn, 1) := by decide +kernel
theorem dX3_stepped_161 : decode cX3_stepped 161 = .ok (.lconst 1, 1) := by decide +kernel
theorem dX3_stepped_162 : decode cX3_stepped 162 = .ok (.iload 4, 2) := by decide +kernel
theorem dX3_stepped_164 : decode cX3_stepped 164 = .ok (.iload 8, 2) := by decide +kernel
theorem dX3_stepped_166 : decode cX3_stepped 166 = .ok (.isub, 1) := by decide +kernel
theorem dX3_stepped_167 : decode cX3_stepped 167 = .ok (.lshl, 1) := by decide +kernel
theorem dX3_stepped_168 : decode cX3_stepped 168 = .ok (.lstore 10, 2) := by decide +kernel
theorem dX3_stepped_170 : decode cX3_stepped 170 = .ok (.lload 6, 2) := by decide +kernel
