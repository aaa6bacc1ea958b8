theorem dX12_pairs_37 : decode cX12_pairs 37 = .ok (.invokevirtual 383, 3) := by decide +kernel
theorem dX12_pairs_40 : decode cX12_pairs 40 = .ok (.ifCond .ne 7, 3) := by decide +kernel
theorem dX12_pairs_43 : decode cX12_pairs 43 = .ok (.iconst (-1), 1) := by decide +kernel
theorem dX12_pairs_44 : decode cX12_pairs 44 = .ok (.goto 7, 3) := by decide +kernel
theorem dX12_pairs_47 : decode cX12_pairs 47 = .ok (.aload_n 0, 1) := by decide +kernel
theorem dX12_pairs_48 : decode cX12_pairs 48 = .ok (.getfield 373, 3) := by decide +kernel
theorem dX12_pairs_51 : decode cX12_pairs 51 = .ok (.ireturn, 1) := by decide +kernel
theorem dX12_doAllKnow_0 : decode cX12_doAllKnow 0 = .ok (.iconst 1, 1) := by decide +kernel
theorem dX12_doAllKnow_1 : decode cX12_doAllKnow 1 = .ok (.istore_n 1, 1) := by decide +kernel
theorem dX12_doAllKnow_2 : decode cX12_doAllKnow 2 = .ok (.iconst 0, 1) := by decide +kernel
theorem dX12_doAllKnow_3 : decode cX12_doAllKnow 3 = .ok (.istore_n 2, 1) := by decide +kernel
theorem dX12_doAllKnow_4 : decode cX12_doAllKnow 4 = .ok (.iload_n 2, 1) := by decide +kernel
theorem dX12_doAllKnow_5 : decode cX12_doAllKnow 5 = .ok (.aload_n 0, 1) := by decide +kernel
theorem dX12_doAllKnow_6 : decode cX12_doAllKnow 6 = .ok (.getfield 252, 3) := by decide +kernel
theorem dX12_doAllKnow_9 : decode cX12_doAllKnow 9 = .ok (.if_icmp .ge 39, 3) := by decide +kernel
theorem dX12_doAllKnow_12 : decode cX12_doAllKnow 12 = .ok (.iload_n 1, 1) := by decide +kernel
theorem dX12_doAllKnow_13 : decode cX12_doAllKnow 13 = .ok (.ifCond .eq 27, 3) := by decide +kernel
theorem dX12_doAllKnow_16 : decode cX12_doAllKnow 16 = .ok (.aload_n 0, 1) := by decide +kernel
theorem dX12_doAllKnow_17 : decode cX12_doAllKnow 17 = .ok (.getfield 58, 3) := by decide +kernel
theorem dX12_doAllKnow_20 : decode cX12_doAllKnow 20 = .ok (.bipush 48, 2) := by decide +kernel
theorem dX12_doAllKnow_22 : decode cX12_doAllKnow 22 = .ok (.iload_n 2, 1) := by decide +kernel
theorem dX12_doAllKnow_23 : decode cX12_doAllKnow 23 = .ok (.iadd, 1) := by decide +kernel
theorem dX12_doAllKnow_24 : decode cX12_doAllKnow 24 = .ok (.iaload, 1) := by decide +kernel
theorem dX12_doAllKnow_25 : decode cX12_doAllKnow 25 = .ok (.iconst 1, 1) := by decide +kernel
theorem dX12_doAllKnow_26 : decode cX12_doAllKnow 26 = .ok (.aload_n 0, 1) := by decide +kernel
theorem dX12_doAllKnow_27 : decode cX12_doAllKnow 27 = .ok (.getfield 252, 3) := by decide +kernel
theorem dX12_doAllKnow_30 : decode cX12_doAllKnow 30 = .ok (.ishl, 1) := by decide +kernel
theorem dX12_doAllKnow_31 : decode cX12_doAllKnow 31 = .ok (.iconst 1, 1) := by decide +kernel
theorem dX12_doAllKnow_32 : decode cX12_doAllKnow 32 = .ok (.isub, 1) := by decide +kernel
theorem dX12_doAllKnow_33 : decode cX12_doAllKnow 33 = .ok (.if_icmp .ne 7, 3) := by decide +kernel
theorem dX12_doAllKnow_36 : decode cX12_doAllKnow 36 = .ok (.iconst 1, 1) := by decide +kernel
theorem dX12_doAllKnow_37 : decode cX12_doAllKnow 37 = .ok (.goto 4, 3) := by decide +kernel
theorem dX12_doAllKnow_40 : decode cX12_doAllKnow 40 = .ok (.iconst 0, 1) := by decide +kernel
theorem dX12_doAllKnow_41 : decode cX12_doAllKnow 41 = .ok (.istore_n 1, 1) := by decide +kernel
theorem dX12_doAllKnow_42 : decode cX12_doAllKnow 42 = .ok (.iinc 2 1, 3) := by decide +kernel
theorem dX12_doAllKnow_45 : decode cX12_doAllKnow 45 = .ok (.goto (-41), 3) := by decide +kernel
theorem dX12_doAllKnow_48 : decode cX12_doAllKnow 48 = .ok (.iload_n 1, 1) := by decide +kernel
theorem dX12_doAllKnow_49 : decode cX12_doAllKnow 49 = .ok (.ireturn, 1) := by decide +kernel
set_option maxRecDepth 20000 in
theorem ggX12_meetPairs_X12_layPairs : GoodIn wsX12_meetPairs wsX12_layPairs := goodIn_r _ [8, 9, 10, 11, 12, 7, 13, 2, 14, 1, 15, 16, 17, 18, 19, 20, 21, 22, 23, 24, 25, 26, 27, 28, 29, 30, 31, 32, 33, 34, 35, 36, 37, 38, 39, 40, 41, 42, 43, 44, 45, 46, 47, 48, 49, 50, 51, 52, 53, 54, 55, 56, 57, 58, 59, 60, 61, 62, 63, 64, 65, 66, 67, 68, 69, 70, 71, 72, 73, 74, 75, 76, 77, 78, 79, 80, 81, 82, 83, 84, 85, 86, 87, 88, 89, 90, 91, 92, 93, 94, 95, 112, 113, 114, 115, 116, 117, 118, 119, 120, 121, 122, 123, 124, 125, 126, 127, 128, 129, 130, 131, 132, 133, 134, 135, 136, 137, 138, 139, 140, 141, 142, 143, 144, 145, 146, 147, 148, 149, 150, 151, 152, 153, 154, 155, 156, 157] (by decide +kernel) (by decide +kernel)
set_option maxRecDepth 20000 in
theorem gX12_meetPairs_X12_layPairs : GoodIn wsX12_meetPairs (wsV RX12 380 RX12 yX12_layPairs wsX12_layPairs) := goodIn_app (goodIn_of _ (by decide +kernel)) ggX12_meetPairs_X12_layPairs
set_option maxRecDepth 20000 in
theorem ggX12_meetPairs_X12_of : GoodIn wsX12_meetPairs wsX12_of := goodIn_r _ [18, 19, 112, 113, 114, 115, 116, 117, 118, 119, 120, 121, 122, 123, 124, 125, 126, 127, 128, 129, 130, 131, 132, 133, 134, 135, 136, 137, 138, 139, 140, 141, 142, 143, 144, 145, 146, 147, 148, 149, 150, 151, 152, 153, 154, 155, 156, 157] (by decide +kernel) (by decide +kernel)
set_option maxRecDepth 20000 in
theorem gX12_meetPairs_X12_of : GoodIn wsX12_meetPairs (wsV RX12 258 RX12 yX12_of wsX12_of) := goodIn_app (goodIn_of _ (by decide +kernel)) ggX12_meetPairs_X12_of
set_option maxRecDepth 20000 in
theorem ggX12_meetPairs_X12_isFree : GoodIn wsX12_meetPairs wsX12_isFree := goodIn_r _ [23, 24, 112, 113, 114, 115, 116, 117, 118, 119, 120, 121, 122, 123, 124, 125, 126, 127, 128, 129, 130, 131, 132, 133, 134, 135, 136, 137, 138, 139, 140, 141, 142, 143, 144, 145, 146, 147, 148, 149, 150, 151, 152, 153, 154, 155, 156, 157] (by decide +kernel) (by decide +kernel)
set_option maxRecDepth 20000 in
theorem gX12_meetPairs_X12_isFree : GoodIn wsX12_meetPairs (wsV RX12 313 RX12 yX12_isFree wsX12_isFree) := goodIn_app (goodIn_of _ (by decide +kernel)) ggX12_meetPairs_X12_isFree
set_option maxRecDepth 20000 in
theorem ggX12_meetPairs_X12_meetNow : GoodIn wsX12_meetPairs wsX12_meetNow := goodIn_r _ [99, 24, 43, 44, 7, 45, 46, 47, 48, 49, 50, 51, 52, 39, 40, 41, 42, 53, 54, 55, 56, 57, 58, 59, 60, 15, 16, 17, 18, 19, 61, 62, 63, 64, 65, 66, 67, 68, 69, 70, 71, 72, 73, 74, 75, 76, 77, 78, 79, 80, 81, 82, 83, 84, 85, 86, 87, 88, 89, 90, 91, 92, 93, 94, 95, 100, 101, 102, 103, 104, 105, 106, 107, 108, 109, 110, 111, 112, 113, 114, 115, 116, 117, 118, 119, 120, 121, 122, 123, 124, 125, 126, 127, 128, 129, 130, 131, 132, 133, 134, 135, 136, 137, 138, 139, 140, 141, 142, 143, 144, 145, 146, 147, 148, 149, 150, 151, 152, 153, 154, 155, 156, 157] (by decide +kernel) (by decide +kernel)
set_option maxRecDepth 20000 in
theorem gX12_meetPairs_X12_meetNow : GoodIn wsX12_meetPairs (wsV RX12 340 RX12 yX12_meetNow wsX12_meetNow) := goodIn_app (goodIn_of _ (by decide +kernel)) ggX12_meetPairs_X12_meetNow
theorem dX12_meetPairs_0 : decode cX12_meetPairs 0 = .ok (.aload_n 0, 1) := by decide +kernel
theorem dX12_meetPairs_1 : decode cX12_meetPairs 1 = .ok (.invokevirtual 380, 3) := by decide +kernel
theorem dX12_meetPairs_4 : decode cX12_meetPairs 4 = .ok (.aload_n 0, 1) := by decide +kernel
theorem dX12_meetPairs_5 : decode cX12_meetPairs 5 = .ok (.getfield 373, 3) := by decide +kernel
theorem dX12_meetPairs_8 : decode cX12_meetPairs 8 = .ok (.istore_n 1, 1) := by decide +kernel
theorem dX12_meetPairs_9 : decode cX12_meetPairs 9 = .ok (.aload_n 0, 1) := by decide +kernel
theorem dX12_meetPairs_10 : decode cX12_meetPairs 10 = .ok (.getfield 252, 3) := by decide +kernel
theorem dX12_meetPairs_13 : decode cX12_meetPairs 13 = .ok (.iconst 1, 1) := by decide +kernel
theorem dX12_meetPairs_14 : decode cX12_meetPairs 14 = .ok (.isub, 1) := by decide +kernel
theorem dX12_meetPairs_15 : decode cX12_meetPairs 15 = .ok (.istore_n 2, 1) := by decide +kernel
theorem dX12_meetPairs_16 : decode cX12_meetPairs 16 = .ok (.iload_n 2, 1) := by decide +kernel
theorem dX12_meetPairs_17 : decode cX12_meetPairs 17 = .ok (.ifCond .lt 64, 3) := by decide +kernel
theorem dX12_meetPairs_20 : decode cX12_meetPairs 20 = .ok (.aload_n 0, 1) := by decide +kernel
theorem dX12_meetPairs_21 : decode cX12_meetPairs 21 = .ok (.iload_n 2, 1) := by decide +kernel
theorem dX12_meetPairs_22 : decode cX12_meetPairs 22 = .ok (.iconst 0, 1) := by decide +kernel
theorem dX12_meetPairs_23 : decode cX12_meetPairs 23 = .ok (.invokevirtual 258, 3) := by decide +kernel
theorem dX12_meetPairs_26 : decode cX12_meetPairs 26 = .ok (.ifCond .ne 15, 3) := by decide +kernel
theorem dX12_meetPairs_29 : decode cX12_meetPairs 29 = .ok (.aload_n 0, 1) := by decide +kernel
theorem dX12_meetPairs_30 : decode cX12_meetPairs 30 = .ok (.iload_n 2, 1) := by decide +kernel
theorem dX12_meetPairs_31 : decode cX12_meetPairs 31 = .ok (.invokevirtual 313, 3) := by decide +kernel
theorem dX12_meetPairs_34 : decode cX12_meetPairs 34 = .ok (.ifCond .eq 7, 3) := by decide +kernel
theorem dX12_meetPairs_37 : decode cX12_meetPairs 37 = .ok (.iconst 1, 1) := by decide +kernel
theorem dX12_meetPairs_38 : decode cX12_meetPairs 38 = .ok (.goto 4, 3) := by decide +kernel
theorem dX12_meetPairs_41 : decode cX12_meetPairs 41 = .ok (.iconst 0, 1) := by decide +kernel
theorem dX12_meetPairs_42 : decode cX12_meetPairs 42 = .ok (.istore_n 3, 1) := by decide +kernel
theorem dX12_meetPairs_43 : decode cX12_meetPairs 43 = .ok (.aload_n 0, 1) := by decide +kernel
theorem dX12_meetPairs_44 : decode cX12_meetPairs 44 = .ok (.getfield 74, 3) := by decide +kernel
theorem dX12_meetPairs_47 : decode cX12_meetPairs 47 = .ok (.iload_n 2, 1) := by decide +kernel
theorem dX12_meetPairs_48 : decode cX12_meetPairs 48 = .ok (.iload_n 3, 1) := by decide +kernel
theorem dX12_meetPairs_49 : decode cX12_meetPairs 49 = .ok (.ifCond .eq 10, 3) := by decide +kernel
theorem dX12_meetPairs_52 : decode cX12_meetPairs 52 = .ok (.iload_n 1, 1) := by decide +kernel
theorem dX12_meetPairs_53 : decode cX12_meetPairs 53 = .ok (.bipush 10, 2) := by decide +kernel
theorem dX12_meetPairs_55 : decode cX12_meetPairs 55 = .ok (.irem, 1) := by decide +kernel
theorem dX12_meetPairs_56 : decode cX12_meetPairs 56 = .ok (.goto 5, 3) := by decide +kernel
theorem dX12_meetPairs_59 : decode cX12_meetPairs 59 = .ok (.bipush 9, 2) := by decide +kernel
theorem dX12_meetPairs_61 : decode cX12_meetPairs 61 = .ok (.iastore, 1) := by decide +kernel
theorem dX12_meetPairs_62 : decode cX12_meetPairs 62 = .ok (.iload_n 3, 1) := by decide +kernel
theorem dX12_meetPairs_63 : decode cX12_meetPairs 63 = .ok (.ifCond .eq 10, 3) := by decide +kernel
theorem dX12_meetPairs_66 : decode cX12_meetPairs 66 = .ok (.iload_n 1, 1) := by decide +kernel
theorem dX12_meetPairs_67 : decode cX12_meetPairs 67 = .ok (.bipush 10, 2) := by decide +kernel
theorem dX12_meetPairs_69 : decode cX12_meetPairs 69 = .ok (.idiv, 1) := by decide +kernel
theorem dX12_meetPairs_70 : decode cX12_meetPairs 70 = .ok (.goto 4, 3) := by decide +kernel
theorem dX12_meetPairs_73 : decode cX12_meetPairs 73 = .ok (.iload_n 1, 1) := by decide +kernel
theorem dX12_meetPairs_74 : decode cX12_meetPairs 74 = .ok (.istore_n 1, 1) := by decide +kernel
theorem dX12_meetPairs_75 : decode cX12_meetPairs 75 = .ok (.iinc 2 (-1), 3) := by decide +kernel
theorem dX12_meetPairs_78 : decode cX12_meetPairs 78 = .ok (.goto (-62), 3) := by decide +kernel
theorem dX12_meetPairs_81 : decode cX12_meetPairs 81 = .ok (.iconst 0, 1) := by decide +kernel
theorem dX12_meetPairs_82 : decode cX12_meetPairs 82 = .ok (.istore_n 2, 1) := by decide +kernel
theorem dX12_meetPairs_83 : decode cX12_meetPairs 83 = .ok (.iload_n 2, 1) := by decide +kernel
theorem dX12_meetPairs_84 : decode cX12_meetPairs 84 = .ok (.aload_n 0, 1) := by decide +kernel
theorem dX12_meetPairs_85 : decode cX12_meetPairs 85 = .ok (.getfield 252, 3) := by decide +kernel
theorem dX12_meetPairs_88 : decode cX12_meetPairs 88 = .ok (.if_icmp .ge 31, 3) := by decide +kernel
theorem dX12_meetPairs_91 : decode cX12_meetPairs 91 = .ok (.aload_n 0, 1) := by decide +kernel
theorem dX12_meetPairs_92 : decode cX12_meetPairs 92 = .ok (.getfield 74, 3) := by decide +kernel
theorem dX12_meetPairs_95 : decode cX12_meetPairs 95 = .ok (.iload_n 2, 1) := by decide +kernel
theorem dX12_meetPairs_96 : decode cX12_meetPairs 96 = .ok (.iaload, 1) := by decide +kernel
theorem dX12_meetPairs_97 : decode cX12_meetPairs 97 = .ok (.bipush 9, 2) := by decide +kernel
theorem dX12_meetPairs_99 : decode cX12_meetPairs 99 = .ok (.if_icmp .eq 14, 3) := by decide +kernel
theorem dX12_meetPairs_102 : decode cX12_meetPairs 102 = .ok (.aload_n 0, 1) := by decide +kernel
theorem dX12_meetPairs_103 : decode cX12_meetPairs 103 = .ok (.iload_n 2, 1) := by decide +kernel
theorem dX12_meetPairs_104 : decode cX12_meetPairs 104 = .ok (.aload_n 0, 1) := by decide +kernel
theorem dX12_meetPairs_105 : decode cX12_meetPairs 105 = .ok (.getfield 74, 3) := by decide +kernel
theorem dX12_meetPairs_108 : decode cX12_meetPairs 108 = .ok (.iload_n 2, 1) := by decide +kernel
theorem dX12_meetPairs_109 : decode cX12_meetPairs 109 = .ok (.iaload, 1) := by decide +kernel
theorem dX12_meetPairs_110 : decode cX12_meetPairs 110 = .ok (.invokevirtual 340, 3) := by decide +kernel
theorem dX12_meetPairs_113 : decode cX12_meetPairs 113 = .ok (.iinc 2 1, 3) := by decide +kernel
theorem dX12_meetPairs_116 : decode cX12_meetPairs 116 = .ok (.goto (-33), 3) := by decide +kernel
theorem dX12_meetPairs_119 : decode cX12_meetPairs 119 = .ok (.return_, 1) := by decide +kernel
set_option maxRecDepth 20000 in
theorem ggX12_allKnow_X12_doAllKnow : GoodIn wsX12_allKnow wsX12_doAllKnow := goodIn_r _ [8, 1, 3, 129, 130, 131, 132, 133, 134, 135, 136, 137, 138, 139, 140, 141, 142, 143, 144, 145, 146, 147, 148, 149, 150, 151, 152, 153, 154, 155, 156, 157, 158, 159, 160, 161, 162, 163, 164, 165, 166, 167, 168, 169, 170, 171, 172, 173, 174] (by decide +kernel) (by decide +kernel)
set_option maxRecDepth 20000 in
theorem gX12_allKnow_X12_doAllKnow : GoodIn wsX12_allKnow (wsV RX12 386 RX12 yX12_doAllKnow wsX12_doAllKnow) := goodIn_app (goodIn_of _ (by decide +kernel)) ggX12_allKnow_X12_doAllKnow
set_option maxRecDepth 20000 in
theorem ggX12_allKnow_X12_meetPairs : GoodIn wsX12_allKnow wsX12_meetPairs := goodIn_r _ [12, 13, 1, 14, 15, 16, 17, 7, 18, 19, 20, 21, 22, 23, 24, 25, 26, 27, 28, 29, 30, 31, 32, 33, 3, 34, 35, 36, 37, 38, 39, 40, 41, 42, 43, 44, 45, 46, 47, 48, 49, 50, 51, 52, 53, 54, 55, 56, 57, 58, 59, 60, 61, 62, 63, 64, 65, 66, 67, 68, 69, 70, 71, 72, 73, 74, 75, 76, 77, 78, 79, 80, 81, 82, 83, 84, 85, 86, 87, 88, 89, 90, 91, 92, 93, 94, 95, 96, 97, 98, 99, 100, 101, 102, 103, 104, 105, 106, 107, 108, 109, 110, 111, 112, 113, 114, 115, 116, 117, 118, 119, 120, 129, 130, 131, 132, 133, 134, 135, 136, 137, 138, 139, 140, 141, 142, 143, 144, 145, 146, 147, 148, 149, 150, 151, 152, 153, 154, 155, 156, 157, 158, 159, 160, 161, 162, 163, 164, 165, 166, 167, 168, 169, 170, 171, 172, 173, 174] (by decide +kernel) (by decide +kernel)
set_option maxRecDepth 20000 in
theorem gX12_allKnow_X12_meetPairs : GoodIn wsX12_allKnow (wsV RX12 389 RX12 yX12_meetPairs wsX12_meetPairs) := goodIn_app (goodIn_of _ (by decide +kernel)) ggX12_allKnow_X12_meetPairs
set_option maxRecDepth 20000 in
theorem ggX12_allKnow_X12_live : GoodIn wsX12_allKnow wsX12_live := goodIn_r _ [124, 3, 55, 56, 57, 58, 1, 125, 126, 127, 7, 128, 34, 35, 36, 37, 38, 39, 40, 41, 42, 43, 44, 25, 26, 27, 28, 29, 52, 53, 54, 59, 60, 61, 109, 110, 111, 129, 130, 131, 132, 133, 134, 135, 136, 137, 138, 139, 140, 141, 142, 143, 144, 145, 146, 147, 148, 149, 150, 151, 152, 153, 154, 155, 156, 157, 158, 159, 160, 161, 162, 163, 164, 165, 166, 167, 168, 169, 170, 171, 172, 173, 174] (by decide +kernel) (by decide +kernel)
set_option maxRecDepth 20000 in
theorem gX12_allKnow_X12_live : GoodIn wsX12_allKnow (wsV RX12 325 RX12 yX12_live wsX12_live) := goodIn_app (goodIn_of _ (by decide +kernel)) ggX12_allKnow_X12_live
theorem dX12_allKnow_0 : decode cX12_allKnow 0 = .ok (.aload_n 0, 1) := by decide +kernel
theorem dX12_allKnow_1 : decode cX12_allKnow 1 = .ok (.getfield 252, 3) := by decide +kernel
theorem dX12_allKnow_4 : decode cX12_allKnow 4 = .ok (.ifCond .ne 5, 3) := by decide +kernel
theorem dX12_allKnow_7 : decode cX12_allKnow 7 = .ok (.iconst (-1), 1) := by decide +kernel
theorem dX12_allKnow_8 : decode cX12_allKnow 8 = .ok (.ireturn, 1) := by decide +kernel
theorem dX12_allKnow_9 : decode cX12_allKnow 9 = .ok (.iconst 0, 1) := by decide +kernel
theorem dX12_allKnow_10 : decode cX12_allKnow 10 = .ok (.istore_n 1, 1) := by decide +kernel
theorem dX12_allKnow_11 : decode cX12_allKnow 11 = .ok (.iload_n 1, 1) := by decide +kernel
theorem dX12_allKnow_12 : decode cX12_allKnow 12 = .ok (.bipush 69, 2) := by decide +kernel
theorem dX12_allKnow_14 : decode cX12_allKnow 14 = .ok (.if_icmp .ge 21, 3) := by decide +kernel
theorem dX12_allKnow_17 : decode cX12_allKnow 17 = .ok (.aload_n 0, 1) := by decide +kernel
theorem dX12_allKnow_18 : decode cX12_allKnow 18 = .ok (.getfield 77, 3) := by decide +kernel
theorem dX12_allKnow_21 : decode cX12_allKnow 21 = .ok (.iload_n 1, 1) := by decide +kernel
theorem dX12_allKnow_22 : decode cX12_allKnow 22 = .ok (.aload_n 0, 1) := by decide +kernel
theorem dX12_allKnow_23 : decode cX12_allKnow 23 = .ok (.getfield 58, 3) := by decide +kernel
theorem dX12_allKnow_26 : decode cX12_allKnow 26 = .ok (.iload_n 1, 1) := by decide +kernel
theorem dX12_allKnow_27 : decode cX12_allKnow 27 = .ok (.iaload, 1) := by decide +kernel
theorem dX12_allKnow_28 : decode cX12_allKnow 28 = .ok (.iastore, 1) := by decide +kernel
theorem dX12_allKnow_29 : decode cX12_allKnow 29 = .ok (.iinc 1 1, 3) := by decide +kernel
theorem dX12_allKnow_32 : decode cX12_allKnow 32 = .ok (.goto (-21), 3) := by decide +kernel
theorem dX12_allKnow_35 : decode cX12_allKnow 35 = .ok (.iconst 0, 1) := by decide +kernel
theorem dX12_allKnow_36 : decode cX12_allKnow 36 = .ok (.istore_n 1, 1) := by decide +kernel
theorem dX12_allKnow_37 : decode cX12_allKnow 37 = .ok (.iload_n 1, 1) := by decide +kernel
theorem dX12_allKnow_38 : decode cX12_allKnow 38 = .ok (.bipush 30, 2) := by decide +kernel
theorem dX12_allKnow_40 : decode cX12_allKnow 40 = .ok (.if_icmp .ge 24, 3) := by decide +kernel
theorem dX12_allKnow_43 : decode cX12_allKnow 43 = .ok (.aload_n 0, 1) := by decide +kernel
theorem dX12_allKnow_44 : decode cX12_allKnow 44 = .ok (.invokevirtual 386, 3) := by decide +kernel
theorem dX12_allKnow_47 : decode cX12_allKnow 47 = .ok (.ifCond .ne 17, 3) := by decide +kernel
theorem dX12_allKnow_50 : decode cX12_allKnow 50 = .ok (.aload_n 0, 1) := by decide +kernel
theorem dX12_allKnow_51 : decode cX12_allKnow 51 = .ok (.invokevirtual 389, 3) := by decide +kernel
theorem dX12_allKnow_54 : decode cX12_allKnow 54 = .ok (.aload_n 0, 1) := by decide +kernel
theorem dX12_allKnow_55 : decode cX12_allKnow 55 = .ok (.invokevirtual 325, 3) := by decide +kernel
theorem dX12_allKnow_58 : decode cX12_allKnow 58 = .ok (.iinc 1 1, 3) := by decide +kernel
theorem dX12_allKnow_61 : decode cX12_allKnow 61 = .ok (.goto (-24), 3) := by decide +kernel
theorem dX12_allKnow_64 : decode cX12_allKnow 64 = .ok (.aload_n 0, 1) := by decide +kernel
theorem dX12_allKnow_65 : decode cX12_allKnow 65 = .ok (.invokevirtual 386, 3) := by decide +kernel
theorem dX12_allKnow_68 : decode cX12_allKnow 68 = .ok (.istore_n 2, 1) := by decide +kernel
theorem dX12_allKnow_69 : decode cX12_allKnow 69 = .ok (.iconst 0, 1) := by decide +kernel
theorem dX12_allKnow_70 : decode cX12_allKnow 70 = .ok (.istore_n 3, 1) := by decide +kernel
theorem dX12_allKnow_71 : decode cX12_allKnow 71 = .ok (.iload_n 3, 1) := by decide +kernel
theorem dX12_allKnow_72 : decode cX12_allKnow 72 = .ok (.bipush 69, 2) := by decide +kernel
theorem dX12_allKnow_74 : decode cX12_allKnow 74 = .ok (.if_icmp .ge 21, 3) := by decide +kernel
theorem dX12_allKnow_77 : decode cX12_allKnow 77 = .ok (.aload_n 0, 1) := by decide +kernel
theorem dX12_allKnow_78 : decode cX12_allKnow 78 = .ok (.getfield 58, 3) := by decide +kernel
theorem dX12_allKnow_81 : decode cX12_allKnow 81 = .ok (.iload_n 3, 1) := by decide +kernel
theorem dX12_allKnow_82 : decode cX12_allKnow 82 = .ok (.aload_n 0, 1) := by decide +kernel
theorem dX12_allKnow_83 : decode cX12_allKnow 83 = .ok (.getfield 77, 3) := by decide +kernel
theorem dX12_allKnow_86 : decode cX12_allKnow 86 = .ok (.iload_n 3, 1) := by decide +kernel
theorem dX12_allKnow_87 : decode cX12_allKnow 87 = .ok (.iaload, 1) := by decide +kernel
theorem dX12_allKnow_88 : decode cX12_allKnow 88 = .ok (.iastore, 1) := by decide +kernel
theorem dX12_allKnow_89 : decode cX12_allKnow 89 = .ok (.iinc 3 1, 3) := by decide +kernel
theorem dX12_allKnow_92 : decode cX12_allKnow 92 = .ok (.goto (-21), 3) := by decide +kernel
theorem dX12_allKnow_95 : decode cX12_allKnow 95 = .ok (.iload_n 2, 1) := by decide +kernel
theorem dX12_allKnow_96 : decode cX12_allKnow 96 = .ok (.ifCond .eq 7, 3) := by decide +kernel
theorem dX12_allKnow_99 : decode cX12_allKnow 99 = .ok (.iload_n 1, 1) := by decide +kernel
theorem dX12_allKnow_100 : decode cX12_allKnow 100 = .ok (.goto 4, 3) := by decide +kernel
theorem dX12_allKnow_103 : decode cX12_allKnow 103 = .ok (.iconst (-1), 1) := by decide +kernel
theorem dX12_allKnow_104 : decode cX12_allKnow 104 = .ok (.ireturn, 1) := by decide +kernel
set_option maxRecDepth 20000 in
theorem ggX12_seen_X12_areTwo : GoodIn wsX12_seen wsX12_areTwo := goodIn_r _ [10, 11, 12, 13, 9, 14, 15, 16, 17, 18, 19, 20, 21, 22, 23, 24, 25, 26, 27, 28, 29, 30, 31, 32, 33, 34, 35, 36, 37, 38, 39, 40, 41, 42, 43, 44, 45, 46, 47, 48, 49, 50, 51, 52, 53, 54, 55, 56, 57, 58, 59, 60, 61, 62, 63, 64, 65, 66, 67, 68, 69] (by decide +kernel) (by decide +kernel)
set_option maxRecDepth 20000 in
theorem gX12_seen_X12_areTwo : GoodIn wsX12_seen (wsV RX12 316 RX12 yX12_areTwo wsX12_areTwo) := goodIn_app (goodIn_of _ (by decide +kernel)) ggX12_seen_X12_areTwo
set_option maxRecDepth 20000 in
theorem ggX12_seen_X12_in : GoodIn wsX12_seen wsX12_in := goodIn_r _ [18] (by decide +kernel) (by decide +kernel)
set_option maxRecDepth 20000 in
theorem gX12_seen_X12_in : GoodIn wsX12_seen (va_wsS RX12 211 yX12_in wsX12_in) := goodIn_app (goodIn_of _ (by decide +kernel)) ggX12_seen_X12_in
theorem dX12_seen_0 : decode cX12_seen 0 = .ok (.aload_n 0, 1) := by decide +kernel
theorem dX12_seen_1 : decode cX12_seen 1 = .ok (.iload_n 1, 1) := by decide +kernel
theorem dX12_seen_2 : decode cX12_seen 2 = .ok (.iload_n 2, 1) := by decide +kernel
theorem dX12_seen_3 : decode cX12_seen 3 = .ok (.invokevirtual 316, 3) := by decide +kernel
theorem dX12_seen_6 : decode cX12_seen 6 = .ok (.ifCond .eq 23, 3) := by decide +kernel
theorem dX12_seen_9 : decode cX12_seen 9 = .ok (.iload_n 3, 1) := by decide +kernel
theorem dX12_seen_10 : decode cX12_seen 10 = .ok (.bipush (-9), 2) := by decide +kernel
theorem dX12_seen_12 : decode cX12_seen 12 = .ok (.bipush 9, 2) := by decide +kernel
theorem dX12_seen_14 : decode cX12_seen 14 = .ok (.invokestatic 211, 3) := by decide +kernel
theorem dX12_seen_17 : decode cX12_seen 17 = .ok (.ifCond .eq 12, 3) := by decide +kernel
theorem dX12_seen_20 : decode cX12_seen 20 = .ok (.aload_n 0, 1) := by decide +kernel
theorem dX12_seen_21 : decode cX12_seen 21 = .ok (.getfield 261, 3) := by decide +kernel
theorem dX12_seen_24 : decode cX12_seen 24 = .ok (.bipush 10, 2) := by decide +kernel
theorem dX12_seen_26 : decode cX12_seen 26 = .ok (.if_icmp .ne 5, 3) := by decide +kernel
theorem dX12_seen_29 : decode cX12_seen 29 = .ok (.iconst (-1), 1) := by decide +kernel
theorem dX12_seen_30 : decode cX12_seen 30 = .ok (.ireturn, 1) := by decide +kernel
theorem dX12_seen_31 : decode cX12_seen 31 = .ok (.aload_n 0, 1) := by decide +kernel
theorem dX12_seen_32 : decode cX12_seen 32 = .ok (.getfield 80, 3) := by decide +kernel
theorem dX12_seen_35 : decode cX12_seen 35 = .ok (.aload_n 0, 1) := by decide +kernel
theorem dX12_seen_36 : decode cX12_seen 36 = .ok (.getfield 261, 3) := by decide +kernel
theorem dX12_seen_39 : decode cX12_seen 39 = .ok (.iload_n 1, 1) := by decide +kernel
theorem dX12_seen_40 : decode cX12_seen 40 = .ok (.iastore, 1) := by decide +kernel
theorem dX12_seen_41 : decode cX12_seen 41 = .ok (.aload_n 0, 1) := by decide +kernel
theorem dX12_seen_42 : decode cX12_seen 42 = .ok (.getfield 83, 3) := by decide +kernel
theorem dX12_seen_45 : decode cX12_seen 45 = .ok (.aload_n 0, 1) := by decide +kernel
theorem dX12_seen_46 : decode cX12_seen 46 = .ok (.getfield 261, 3) := by decide +kernel
theorem dX12_seen_49 : decode cX12_seen 49 = .ok (.iload_n 2, 1) := by decide +kernel
theorem dX12_seen_50 : decode cX12_seen 50 = .ok (.iastore, 1) := by decide +kernel
theorem dX12_seen_51 : decode cX12_seen 51 = .ok (.aload_n 0, 1) := by decide +kernel
theorem dX12_seen_52 : decode cX12_seen 52 = .ok (.getfield 86, 3) := by decide +kernel
theorem dX12_seen_55 : decode cX12_seen 55 = .ok (.aload_n 0, 1) := by decide +kernel
theorem dX12_seen_56 : decode cX12_seen 56 = .ok (.getfield 261, 3) := by decide +kernel
theorem dX12_seen_59 : decode cX12_seen 59 = .ok (.iload_n 3, 1) := by decide +kernel
theorem dX12_seen_60 : decode cX12_seen 60 = .ok (.iastore, 1) := by decide +kernel
theorem dX12_seen_61 : decode cX12_seen 61 = .ok (.aload_n 0, 1) := by decide +kernel
theorem dX12_seen_62 : decode cX12_seen 62 = .ok (.getfield 89, 3) := by decide +kernel
theorem dX12_seen_65 : decode cX12_seen 65 = .ok (.aload_n 0, 1) := by decide +kernel
theorem dX12_seen_66 : decode cX12_seen 66 = .ok (.getfield 261, 3) := by decide +kernel
theorem dX12_seen_69 : decode cX12_seen 69 = .ok (.iload 4, 2) := by decide +kernel
theorem dX12_seen_71 : decode cX12_seen 71 = .ok (.bastore, 1) := by decide +kernel
theorem dX12_seen_72 : decode cX12_seen 72 = .ok (.aload_n 0, 1) := by decide +kernel
theorem dX12_seen_73 : decode cX12_seen 73 = .ok (.dup, 1) := by decide +kernel
theorem dX12_seen_74 : decode cX12_seen 74 = .ok (.getfield 261, 3) := by decide +kernel
theorem dX12_seen_77 : decode cX12_seen 77 = .ok (.iconst 1, 1) := by decide +kernel
theorem dX12_seen_78 : decode cX12_seen 78 = .ok (.iadd, 1) := by decide +kernel
theorem dX12_seen_79 : decode cX12_seen 79 = .ok (.putfield 261, 3) := by decide +kernel
theorem dX12_seen_82 : decode cX12_seen 82 = .ok (.aload_n 0, 1) := by decide +kernel
theorem dX12_seen_83 : decode cX12_seen 83 = .ok (.getfield 261, 3) := by decide +kernel
theorem dX12_seen_86 : decode cX12_seen 86 = .ok (.ireturn, 1) := by decide +kernel
set_option maxRecDepth 20000 in
theorem ggX12_toldRise_X12_of : GoodIn wsX12_toldRise wsX12_of := goodIn_r _ [6, 7, 54, 55, 56, 57, 58, 59, 60, 61, 62, 63, 64, 65, 66, 67, 68, 69, 70, 71, 72, 73, 74, 75, 76, 77, 78, 79, 80, 81, 82, 83, 84, 85, 86, 87, 88, 89, 90, 91, 92, 93, 94, 95, 96, 97, 98, 99] (by decide +kernel) (by decide +kernel)
set_option maxRecDepth 20000 in
theorem gX12_toldRise_X12_of : GoodIn wsX12_toldRise (wsV RX12 258 RX12 yX12_of wsX12_of) := goodIn_app (goodIn_of _ (by decide +kernel)) ggX12_toldRise_X12_of
set_option maxRecDepth 20000 in
theorem ggX12_toldRise_X12_areAllies : GoodIn wsX12_toldRise wsX12_areAllies := goodIn_r _ [11, 2, 3, 4, 5, 6, 7, 54, 55, 56, 57, 58, 59, 60, 61, 62, 63, 64, 65, 66, 67, 68, 69, 70, 71, 72, 73, 74, 75, 76, 77, 78, 79, 80, 81, 82, 83, 84, 85, 86, 87, 88, 89, 90, 91, 92, 93, 94, 95, 96, 97, 98, 99] (by decide +kernel) (by decide +kernel)
set_option maxRecDepth 20000 in
theorem gX12_toldRise_X12_areAllies : GoodIn wsX12_toldRise (wsV RX12 287 RX12 yX12_areAllies wsX12_areAllies) := goodIn_app (goodIn_of _ (by decide +kernel)) ggX12_toldRise_X12_areAllies
set_option maxRecDepth 20000 in
theorem ggX12_toldRise_X12_riseBy : GoodIn wsX12_toldRise wsX12_riseBy := goodIn_r _ [15, 16, 17, 18, 19, 20, 21, 22, 23, 24, 25, 26, 27, 5, 28, 29, 30, 31, 32, 33, 34, 35, 36, 37, 38, 39, 40, 41, 42, 43, 44, 45, 46, 47, 48, 49, 50, 51, 52, 53, 54, 55, 56, 57, 58, 59, 60, 61, 62, 63, 64, 65, 66, 67, 68, 69, 70, 71, 72, 73, 74, 75, 76, 77, 78, 79, 80, 81, 82, 83, 84, 85, 86, 87, 88, 89, 90, 91, 92, 93, 94, 95, 96, 97, 98, 99] (by decide +kernel) (by decide +kernel)
set_option maxRecDepth 20000 in
theorem gX12_toldRise_X12_riseBy : GoodIn wsX12_toldRise (wsV RX12 290 RX12 yX12_riseBy wsX12_riseBy) := goodIn_app (goodIn_of _ (by decide +kernel)) ggX12_toldRise_X12_riseBy
theorem dX12_toldRise_0 : decode cX12_toldRise 0 = .ok (.aload_n 0, 1) := by decide +kernel
theorem dX12_toldRise_1 : decode cX12_toldRise 1 = .ok (.iload_n 3, 1) := by decide +kernel
theorem dX12_toldRise_2 : decode cX12_toldRise 2 = .ok (.aload_n 0, 1) := by decide +kernel
theorem dX12_toldRise_3 : decode cX12_toldRise 3 = .ok (.iload_n 2, 1) := by decide +kernel
theorem dX12_toldRise_4 : decode cX12_toldRise 4 = .ok (.iconst 1, 1) := by decide +kernel
theorem dX12_toldRise_5 : decode cX12_toldRise 5 = .ok (.invokevirtual 258, 3) := by decide +kernel
theorem dX12_toldRise_8 : decode cX12_toldRise 8 = .ok (.iadd, 1) := by decide +kernel
theorem dX12_toldRise_9 : decode cX12_toldRise 9 = .ok (.aload_n 0, 1) := by decide +kernel
theorem dX12_toldRise_10 : decode cX12_toldRise 10 = .ok (.iload_n 1, 1) := by decide +kernel
theorem dX12_toldRise_11 : decode cX12_toldRise 11 = .ok (.iconst 2, 1) := by decide +kernel
theorem dX12_toldRise_12 : decode cX12_toldRise 12 = .ok (.invokevirtual 258, 3) := by decide +kernel
theorem dX12_toldRise_15 : decode cX12_toldRise 15 = .ok (.aload_n 0, 1) := by decide +kernel
theorem dX12_toldRise_16 : decode cX12_toldRise 16 = .ok (.iload_n 2, 1) := by decide +kernel
theorem dX12_toldRise_17 : decode cX12_toldRise 17 = .ok (.iconst 2, 1) := by decide +kernel
theorem dX12_toldRise_18 : decode cX12_toldRise 18 = .ok (.invokevirtual 258, 3) := by decide +kernel
theorem dX12_toldRise_21 : decode cX12_toldRise 21 = .ok (.iadd, 1) := by decide +kernel
theorem dX12_toldRise_22 : decode cX12_toldRise 22 = .ok (.iconst 0, 1) := by decide +kernel
theorem dX12_toldRise_23 : decode cX12_toldRise 23 = .ok (.aload_n 0, 1) := by decide +kernel
theorem dX12_toldRise_24 : decode cX12_toldRise 24 = .ok (.iload_n 1, 1) := by decide +kernel
theorem dX12_toldRise_25 : decode cX12_toldRise 25 = .ok (.iload_n 2, 1) := by decide +kernel
theorem dX12_toldRise_26 : decode cX12_toldRise 26 = .ok (.invokevirtual 287, 3) := by decide +kernel
theorem dX12_toldRise_29 : decode cX12_toldRise 29 = .ok (.aload_n 0, 1) := by decide +kernel
theorem dX12_toldRise_30 : decode cX12_toldRise 30 = .ok (.getfield 49, 3) := by decide +kernel
theorem dX12_toldRise_33 : decode cX12_toldRise 33 = .ok (.iconst 0, 1) := by decide +kernel
theorem dX12_toldRise_34 : decode cX12_toldRise 34 = .ok (.iaload, 1) := by decide +kernel
theorem dX12_toldRise_35 : decode cX12_toldRise 35 = .ok (.iconst 0, 1) := by decide +kernel
theorem dX12_toldRise_36 : decode cX12_toldRise 36 = .ok (.invokevirtual 290, 3) := by decide +kernel
theorem dX12_toldRise_39 : decode cX12_toldRise 39 = .ok (.ireturn, 1) := by decide +kernel
set_option maxRecDepth 20000 in
theorem ggX12_isFreedom_X12_toldRise : GoodIn wsX12_isFreedom wsX12_toldRise := goodIn_r _ [10, 11, 12, 13, 14, 9, 15, 16, 17, 18, 19, 20, 21, 22, 23, 24, 25, 26, 27, 28, 29, 30, 31, 32, 33, 34, 35, 36, 37, 38, 39, 40, 41, 42, 43, 44, 45, 46, 47, 48, 49, 50, 51, 52, 53, 54, 55, 56, 57, 58, 59, 60, 61, 62, 63, 64, 65, 66, 67, 68, 69, 70, 71, 72, 73, 74, 75, 76, 77, 78, 79, 80, 81, 82, 83, 84, 85, 86, 87, 88, 89, 90, 91, 92, 93, 94, 95, 96, 97, 98, 99, 100, 101, 102, 103, 104, 105, 106, 107, 108] (by decide +kernel) (by decide +kernel)
set_option maxRecDepth 20000 in
theorem gX12_isFreedom_X12_toldRise : GoodIn wsX12_isFreedom (wsV RX12 392 RX12 yX12_toldRise wsX12_toldRise) := goodIn_app (goodIn_of _ (by decide +kernel)) ggX12_isFreedom_X12_toldRise
theorem dX12_isFreedom_0 : decode cX12_isFreedom 0 = .ok (.iconst 0, 1) := by decide +kernel
theorem dX12_isFreedom_1 : decode cX12_isFreedom 1 = .ok (.istore_n 3, 1) := by decide +kernel
theorem dX12_isFreedom_2 : decode cX12_isFreedom 2 = .ok (.iload_n 3, 1) := by decide +kernel
theorem dX12_isFreedom_3 : decode cX12_isFreedom 3 = .ok (.aload_n 0, 1) := by decide +kernel
theorem dX12_isFreedom_4 : decode cX12_isFreedom 4 = .ok (.getfield 261, 3) := by decide +kernel
theorem dX12_isFreedom_7 : decode cX12_isFreedom 7 = .ok (.if_icmp .ge 89, 3) := by decide +kernel
theorem dX12_isFreedom_10 : decode cX12_isFreedom 10 = .ok (.aload_n 0, 1) := by decide +kernel
theorem dX12_isFreedom_11 : decode cX12_isFreedom 11 = .ok (.getfield 80, 3) := by decide +kernel
theorem dX12_isFreedom_14 : decode cX12_isFreedom 14 = .ok (.iload_n 3, 1) := by decide +kernel
theorem dX12_isFreedom_15 : decode cX12_isFreedom 15 = .ok (.iaload, 1) := by decide +kernel
theorem dX12_isFreedom_16 : decode cX12_isFreedom 16 = .ok (.iload_n 1, 1) := by decide +kernel
theorem dX12_isFreedom_17 : decode cX12_isFreedom 17 = .ok (.if_icmp .eq 13, 3) := by decide +kernel
theorem dX12_isFreedom_20 : decode cX12_isFreedom 20 = .ok (.aload_n 0, 1) := by decide +kernel
theorem dX12_isFreedom_21 : decode cX12_isFreedom 21 = .ok (.getfield 83, 3) := by decide +kernel
theorem dX12_isFreedom_24 : decode cX12_isFreedom 24 = .ok (.iload_n 3, 1) := by decide +kernel
theorem dX12_isFreedom_25 : decode cX12_isFreedom 25 = .ok (.iaload, 1) := by decide +kernel
theorem dX12_isFreedom_26 : decode cX12_isFreedom 26 = .ok (.iload_n 1, 1) := by decide +kernel
theorem dX12_isFreedom_27 : decode cX12_isFreedom 27 = .ok (.if_icmp .ne 63, 3) := by decide +kernel
theorem dX12_isFreedom_30 : decode cX12_isFreedom 30 = .ok (.aload_n 0, 1) := by decide +kernel
theorem dX12_isFreedom_31 : decode cX12_isFreedom 31 = .ok (.getfield 80, 3) := by decide +kernel
theorem dX12_isFreedom_34 : decode cX12_isFreedom 34 = .ok (.iload_n 3, 1) := by decide +kernel
theorem dX12_isFreedom_35 : decode cX12_isFreedom 35 = .ok (.iaload, 1) := by decide +kernel
theorem dX12_isFreedom_36 : decode cX12_isFreedom 36 = .ok (.iload_n 1, 1) := by decide +kernel
theorem dX12_isFreedom_37 : decode cX12_isFreedom 37 = .ok (.if_icmp .ne 12, 3) := by decide +kernel
theorem dX12_isFreedom_40 : decode cX12_isFreedom 40 = .ok (.aload_n 0, 1) := by decide +kernel
theorem dX12_isFreedom_41 : decode cX12_isFreedom 41 = .ok (.getfield 83, 3) := by decide +kernel
theorem dX12_isFreedom_44 : decode cX12_isFreedom 44 = .ok (.iload_n 3, 1) := by decide +kernel
theorem dX12_isFreedom_45 : decode cX12_isFreedom 45 = .ok (.iaload, 1) := by decide +kernel
theorem dX12_isFreedom_46 : decode cX12_isFreedom 46 = .ok (.goto 9, 3) := by decide +kernel
theorem dX12_isFreedom_49 : decode cX12_isFreedom 49 = .ok (.aload_n 0, 1) := by decide +kernel
theorem dX12_isFreedom_50 : decode cX12_isFreedom 50 = .ok (.getfield 80, 3) := by decide +kernel
theorem dX12_isFreedom_53 : decode cX12_isFreedom 53 = .ok (.iload_n 3, 1) := by decide +kernel
theorem dX12_isFreedom_54 : decode cX12_isFreedom 54 = .ok (.iaload, 1) := by decide +kernel
theorem dX12_isFreedom_55 : decode cX12_isFreedom 55 = .ok (.istore 4, 2) := by decide +kernel
theorem dX12_isFreedom_57 : decode cX12_isFreedom 57 = .ok (.aload_n 0, 1) := by decide +kernel
theorem dX12_isFreedom_58 : decode cX12_isFreedom 58 = .ok (.iload_n 1, 1) := by decide +kernel
theorem dX12_isFreedom_59 : decode cX12_isFreedom 59 = .ok (.iload 4, 2) := by decide +kernel
theorem dX12_isFreedom_61 : decode cX12_isFreedom 61 = .ok (.iload_n 2, 1) := by decide +kernel
theorem dX12_isFreedom_62 : decode cX12_isFreedom 62 = .ok (.invokevirtual 392, 3) := by decide +kernel
theorem dX12_isFreedom_65 : decode cX12_isFreedom 65 = .ok (.aload_n 0, 1) := by decide +kernel
theorem dX12_isFreedom_66 : decode cX12_isFreedom 66 = .ok (.getfield 86, 3) := by decide +kernel
theorem dX12_isFreedom_69 : decode cX12_isFreedom 69 = .ok (.iload_n 3, 1) := by decide +kernel
theorem dX12_isFreedom_70 : decode cX12_isFreedom 70 = .ok (.iaload, 1) := by decide +kernel
theorem dX12_isFreedom_71 : decode cX12_isFreedom 71 = .ok (.if_icmp .lt 7, 3) := by decide +kernel
theorem dX12_isFreedom_74 : decode cX12_isFreedom 74 = .ok (.iconst 1, 1) := by decide +kernel
theorem dX12_isFreedom_75 : decode cX12_isFreedom 75 = .ok (.goto 4, 3) := by decide +kernel
theorem dX12_isFreedom_78 : decode cX12_isFreedom 78 = .ok (.iconst 0, 1) := by decide +kernel
theorem dX12_isFreedom_79 : decode cX12_isFreedom 79 = .ok (.aload_n 0, 1) := by decide +kernel
theorem dX12_isFreedom_80 : decode cX12_isFreedom 80 = .ok (.getfield 89, 3) := by decide +kernel
theorem dX12_isFreedom_83 : decode cX12_isFreedom 83 = .ok (.iload_n 3, 1) := by decide +kernel
theorem dX12_isFreedom_84 : decode cX12_isFreedom 84 = .ok (.baload, 1) := by decide +kernel
theorem dX12_isFreedom_85 : decode cX12_isFreedom 85 = .ok (.if_icmp .eq 5, 3) := by decide +kernel
theorem dX12_isFreedom_88 : decode cX12_isFreedom 88 = .ok (.iconst 0, 1) := by decide +kernel
theorem dX12_isFreedom_89 : decode cX12_isFreedom 89 = .ok (.ireturn, 1) := by decide +kernel
theorem dX12_isFreedom_90 : decode cX12_isFreedom 90 = .ok (.iinc 3 1, 3) := by decide +kernel
theorem dX12_isFreedom_93 : decode cX12_isFreedom 93 = .ok (.goto (-91), 3) := by decide +kernel
theorem dX12_isFreedom_96 : decode cX12_isFreedom 96 = .ok (.iconst 1, 1) := by decide +kernel
theorem dX12_isFreedom_97 : decode cX12_isFreedom 97 = .ok (.ireturn, 1) := by decide +kernel
set_option maxRecDepth 20000 in
theorem ggX12_fits_X12_isGlove : GoodIn wsX12_fits wsX12_isGlove := goodIn_r _ [5, 6, 7, 8, 4, 9, 75, 76, 77, 78, 79, 80, 81, 82, 83, 84, 85, 86, 87, 88, 89, 90, 91, 92, 93, 94, 95, 96, 97, 98, 99, 100, 101, 102, 103, 104, 105, 106, 107, 108, 109, 110, 111, 112, 113, 114, 115, 116, 117, 118, 119, 120] (by decide +kernel) (by decide +kernel)
set_option maxRecDepth 20000 in
theorem gX12_fits_X12_isGlove : GoodIn wsX12_fits (wsV RX12 277 RX12 yX12_isGlove wsX12_isGlove) := goodIn_app (goodIn_of _ (by decide +kernel)) ggX12_fits_X12_isGlove
set_option maxRecDepth 20000 in
theorem ggX12_fits_X12_isFreedom : GoodIn wsX12_fits wsX12_isFreedom := goodIn_r _ [13, 14, 15, 16, 17, 18, 19, 20, 21, 4, 22, 23, 24, 25, 26, 27, 28, 29, 30, 31, 32, 33, 34, 35, 36, 37, 38, 39, 40, 41, 42, 43, 44, 45, 46, 47, 48, 49, 50, 51, 52, 53, 54, 55, 56, 57, 58, 59, 60, 61, 62, 63, 64, 65, 66, 67, 68, 69, 70, 71, 72, 73, 74, 75, 76, 77, 78, 79, 80, 81, 82, 83, 84, 85, 86, 87, 88, 89, 90, 91, 92, 93, 94, 95, 96, 97, 98, 99, 100, 101, 102, 103, 104, 105, 106, 107, 108, 109, 110, 111, 112, 113, 114, 115, 116, 117, 118, 119, 120] (by decide +kernel) (by decide +kernel)
set_option maxRecDepth 20000 in
theorem gX12_fits_X12_isFreedom : GoodIn wsX12_fits (wsV RX12 395 RX12 yX12_isFreedom wsX12_isFreedom) := goodIn_app (goodIn_of _ (by decide +kernel)) ggX12_fits_X12_isFreedom
theorem dX12_fits_0 : decode cX12_fits 0 = .ok (.aload_n 0, 1) := by decide +kernel
theorem dX12_fits_1 : decode cX12_fits 1 = .ok (.iload_n 1, 1) := by decide +kernel
theorem dX12_fits_2 : decode cX12_fits 2 = .ok (.invokevirtual 277, 3) := by decide +kernel
theorem dX12_fits_5 : decode cX12_fits 5 = .ok (.ifCond .eq 8, 3) := by decide +kernel
theorem dX12_fits_8 : decode cX12_fits 8 = .ok (.iload_n 2, 1) := by decide +kernel
theorem dX12_fits_9 : decode cX12_fits 9 = .ok (.iconst (-1), 1) := by decide +kernel
theorem dX12_fits_10 : decode cX12_fits 10 = .ok (.if_icmp .ge 5, 3) := by decide +kernel
theorem dX12_fits_13 : decode cX12_fits 13 = .ok (.iconst (-1), 1) := by decide +kernel
theorem dX12_fits_14 : decode cX12_fits 14 = .ok (.ireturn, 1) := by decide +kernel
theorem dX12_fits_15 : decode cX12_fits 15 = .ok (.iconst 0, 1) := by decide +kernel
theorem dX12_fits_16 : decode cX12_fits 16 = .ok (.istore_n 3, 1) := by decide +kernel
theorem dX12_fits_17 : decode cX12_fits 17 = .ok (.iconst 0, 1) := by decide +kernel
theorem dX12_fits_18 : decode cX12_fits 18 = .ok (.istore 4, 2) := by decide +kernel
theorem dX12_fits_20 : decode cX12_fits 20 = .ok (.iload 4, 2) := by decide +kernel
theorem dX12_fits_22 : decode cX12_fits 22 = .ok (.bipush 9, 2) := by decide +kernel
theorem dX12_fits_24 : decode cX12_fits 24 = .ok (.if_icmp .gt 30, 3) := by decide +kernel
theorem dX12_fits_27 : decode cX12_fits 27 = .ok (.aload_n 0, 1) := by decide +kernel
theorem dX12_fits_28 : decode cX12_fits 28 = .ok (.iload_n 1, 1) := by decide +kernel
theorem dX12_fits_29 : decode cX12_fits 29 = .ok (.iload 4, 2) := by decide +kernel
theorem dX12_fits_31 : decode cX12_fits 31 = .ok (.invokevirtual 395, 3) := by decide +kernel
theorem dX12_fits_34 : decode cX12_fits 34 = .ok (.ifCond .eq 14, 3) := by decide +kernel
theorem dX12_fits_37 : decode cX12_fits 37 = .ok (.iload_n 3, 1) := by decide +kernel
theorem dX12_fits_38 : decode cX12_fits 38 = .ok (.iload_n 2, 1) := by decide +kernel
theorem dX12_fits_39 : decode cX12_fits 39 = .ok (.if_icmp .ne 6, 3) := by decide +kernel
theorem dX12_fits_42 : decode cX12_fits 42 = .ok (.iload 4, 2) := by decide +kernel
theorem dX12_fits_44 : decode cX12_fits 44 = .ok (.ireturn, 1) := by decide +kernel
theorem dX12_fits_45 : decode cX12_fits 45 = .ok (.iinc 3 1, 3) := by decide +kernel
theorem dX12_fits_48 : decode cX12_fits 48 = .ok (.iinc 4 1, 3) := by decide +kernel
theorem dX12_fits_51 : decode cX12_fits 51 = .ok (.goto (-31), 3) := by decide +kernel
theorem dX12_fits_54 : decode cX12_fits 54 = .ok (.iload_n 2, 1) := by decide +kernel
theorem dX12_fits_55 : decode cX12_fits 55 = .ok (.iconst (-1), 1) := by decide +kernel
theorem dX12_fits_56 : decode cX12_fits 56 = .ok (.if_icmp .ne 7, 3) := by decide +kernel
theorem dX12_fits_59 : decode cX12_fits 59 = .ok (.iload_n 3, 1) := by decide +kernel
theorem dX12_fits_60 : decode cX12_fits 60 = .ok (.goto 4, 3) := by decide +kernel
theorem dX12_fits_63 : decode cX12_fits 63 = .ok (.iconst (-1), 1) := by decide +kernel
theorem dX12_fits_64 : decode cX12_fits 64 = .ok (.ireturn, 1) := by decide +kernel
set_option maxRecDepth 20000 in
theorem ggX12_ask_X12_isGlove : GoodIn wsX12_ask wsX12_isGlove := goodIn_r _ [10, 1, 11, 12, 9, 13, 86, 87, 88, 89, 90, 91, 92, 93, 94, 95, 96, 97, 98, 99, 100, 101, 102, 103, 104, 105, 106, 107, 108, 109, 110, 111, 112, 113, 114, 115, 116, 117, 118, 119, 120, 121, 122, 123, 124, 125, 126, 127, 128, 129, 130, 131] (by decide +kernel) (by decide +kernel)
set_option maxRecDepth 20000 in
theorem gX12_ask_X12_isGlove : GoodIn wsX12_ask (wsV RX12 277 RX12 yX12_isGlove wsX12_isGlove) := goodIn_app (goodIn_of _ (by decide +kernel)) ggX12_ask_X12_isGlove
set_option maxRecDepth 20000 in
theorem ggX12_ask_X12_in : GoodIn wsX12_ask wsX12_in := goodIn_r _ [13] (by decide +kernel) (by decide +kernel)
set_option maxRecDepth 20000 in
theorem gX12_ask_X12_in : GoodIn wsX12_ask (va_wsS RX12 211 yX12_in wsX12_in) := goodIn_app (goodIn_of _ (by decide +kernel)) ggX12_ask_X12_in
set_option maxRecDepth 20000 in
theorem ggX12_ask_X12_fits : GoodIn wsX12_ask wsX12_fits := goodIn_r _ [17, 6, 7, 8, 9, 10, 1, 11, 12, 13, 18, 19, 20, 21, 22, 23, 24, 25, 26, 27, 28, 29, 30, 31, 32, 33, 34, 35, 36, 37, 38, 39, 40, 41, 42, 43, 44, 45, 46, 47, 48, 4, 49, 50, 51, 52, 53, 54, 55, 56, 57, 58, 59, 60, 61, 62, 63, 64, 65, 66, 67, 68, 69, 70, 71, 72, 73, 74, 75, 76, 77, 78, 79, 80, 81, 86, 87, 88, 89, 90, 91, 92, 93, 94, 95, 96, 97, 98, 99, 100, 101, 102, 103, 104, 105, 106, 107, 108, 109, 110, 111, 112, 113, 114, 115, 116, 117, 118, 119, 120, 121, 122, 123, 124, 125, 126, 127, 128, 129, 130, 131] (by decide +kernel) (by decide +kernel)
set_option maxRecDepth 20000 in
theorem gX12_ask_X12_fits : GoodIn wsX12_ask (wsV RX12 398 RX12 yX12_fits wsX12_fits) := goodIn_app (goodIn_of _ (by decide +kernel)) ggX12_ask_X12_fits
set_option maxRecDepth 20000 in
theorem ggX12_ask_X12_areTwo : GoodIn wsX12_ask wsX12_areTwo := goodIn_r _ [85, 6, 7, 8, 9, 10, 1, 11, 12, 13, 32, 33, 34, 35, 36, 86, 87, 88, 89, 90, 91, 92, 93, 94, 95, 96, 97, 98, 99, 100, 101, 102, 103, 104, 105, 106, 107, 108, 109, 110, 111, 112, 113, 114, 115, 116, 117, 118, 119, 120, 121, 122, 123, 124, 125, 126, 127, 128, 129, 130, 131] (by decide +kernel) (by decide +kernel)
set_option maxRecDepth 20000 in
theorem gX12_ask_X12_areTwo : GoodIn wsX12_ask (wsV RX12 316 RX12 yX12_areTwo wsX12_areTwo) := goodIn_app (goodIn_of _ (by decide +kernel)) ggX12_ask_X12_areTwo
set_option maxRecDepth 20000 in
theorem ggX12_ask_X12_isFreedom : GoodIn wsX12_ask wsX12_isFreedom := goodIn_r _ [21, 22, 23, 24, 25, 26, 27, 28, 29, 9, 30, 31, 32, 33, 34, 35, 36, 37, 38, 39, 40, 41, 42, 43, 44, 45, 46, 47, 48, 4, 49, 50, 51, 52, 53, 54, 55, 56, 57, 58, 59, 60, 61, 62, 63, 64, 65, 66, 67, 68, 69, 70, 71, 72, 73, 74, 75, 76, 77, 78, 79, 80, 81, 86, 87, 88, 89, 90, 91, 92, 93, 94, 95, 96, 97, 98, 99, 100, 101, 102, 103, 104, 105, 106, 107, 108, 109, 110, 111, 112, 113, 114, 115, 116, 117, 118, 119, 120, 121, 122, 123, 124, 125, 126, 127, 128, 129, 130, 131] (by decide +kernel) (by decide +kernel)
set_option maxRecDepth 20000 in
theorem gX12_ask_X12_isFreedom : GoodIn wsX12_ask (wsV RX12 395 RX12 yX12_isFreedom wsX12_isFreedom) := goodIn_app (goodIn_of _ (by decide +kernel)) ggX12_ask_X12_isFreedom
set_option maxRecDepth 20000 in
theorem ggX12_ask_X12_toldRise : GoodIn wsX12_ask wsX12_toldRise := goodIn_r _ [30, 31, 32, 33, 34, 9, 35, 36, 37, 38, 39, 40, 41, 42, 43, 44, 45, 46, 47, 48, 4, 49, 50, 51, 52, 53, 54, 55, 56, 57, 58, 59, 60, 61, 62, 63, 64, 65, 66, 67, 68, 69, 70, 71, 72, 73, 74, 75, 76, 77, 78, 79, 80, 81, 86, 87, 88, 89, 90, 91, 92, 93, 94, 95, 96, 97, 98, 99, 100, 101, 102, 103, 104, 105, 106, 107, 108, 109, 110, 111, 112, 113, 114, 115, 116, 117, 118, 119, 120, 121, 122, 123, 124, 125, 126, 127, 128, 129, 130, 131] (by decide +kernel) (by decide +kernel)
set_option maxRecDepth 20000 in
theorem gX12_ask_X12_toldRise : GoodIn wsX12_ask (wsV RX12 392 RX12 yX12_toldRise wsX12_toldRise) := goodIn_app (goodIn_of _ (by decide +kernel)) ggX12_ask_X12_toldRise
theorem dX12_ask_0 : decode cX12_ask 0 = .ok (.aload_n 0, 1) := by decide +kernel
theorem dX12_ask_1 : decode cX12_ask 1 = .ok (.iload_n 1, 1) := by decide +kernel
theorem dX12_ask_2 : decode cX12_ask 2 = .ok (.invokevirtual 277, 3) := by decide +kernel
theorem dX12_ask_5 : decode cX12_ask 5 = .ok (.ifCond .eq 24, 3) := by decide +kernel
theorem dX12_ask_8 : decode cX12_ask 8 = .ok (.iload_n 2, 1) := by decide +kernel
theorem dX12_ask_9 : decode cX12_ask 9 = .ok (.bipush (-9), 2) := by decide +kernel
theorem dX12_ask_11 : decode cX12_ask 11 = .ok (.bipush 9, 2) := by decide +kernel
theorem dX12_ask_13 : decode cX12_ask 13 = .ok (.invokestatic 211, 3) := by decide +kernel
theorem dX12_ask_16 : decode cX12_ask 16 = .ok (.ifCond .eq 13, 3) := by decide +kernel
theorem dX12_ask_19 : decode cX12_ask 19 = .ok (.aload_n 0, 1) := by decide +kernel
theorem dX12_ask_20 : decode cX12_ask 20 = .ok (.iload_n 1, 1) := by decide +kernel
theorem dX12_ask_21 : decode cX12_ask 21 = .ok (.iconst 0, 1) := by decide +kernel
theorem dX12_ask_22 : decode cX12_ask 22 = .ok (.invokevirtual 398, 3) := by decide +kernel
theorem dX12_ask_25 : decode cX12_ask 25 = .ok (.iconst (-1), 1) := by decide +kernel
theorem dX12_ask_26 : decode cX12_ask 26 = .ok (.if_icmp .ne 5, 3) := by decide +kernel
theorem dX12_ask_29 : decode cX12_ask 29 = .ok (.iconst (-1), 1) := by decide +kernel
theorem dX12_ask_30 : decode cX12_ask 30 = .ok (.ireturn, 1) := by decide +kernel
theorem dX12_ask_31 : decode cX12_ask 31 = .ok (.iconst (-1), 1) := by decide +kernel
theorem dX12_ask_32 : decode cX12_ask 32 = .ok (.istore_n 3, 1) := by decide +kernel
theorem dX12_ask_33 : decode cX12_ask 33 = .ok (.iconst 0, 1) := by decide +kernel
theorem dX12_ask_34 : decode cX12_ask 34 = .ok (.istore 4, 2) := by decide +kernel
theorem dX12_ask_36 : decode cX12_ask 36 = .ok (.iconst 0, 1) := by decide +kernel
theorem dX12_ask_37 : decode cX12_ask 37 = .ok (.istore 5, 2) := by decide +kernel
theorem dX12_ask_39 : decode cX12_ask 39 = .ok (.iload 5, 2) := by decide +kernel
theorem dX12_ask_41 : decode cX12_ask 41 = .ok (.aload_n 0, 1) := by decide +kernel
theorem dX12_ask_42 : decode cX12_ask 42 = .ok (.getfield 252, 3) := by decide +kernel
theorem dX12_ask_45 : decode cX12_ask 45 = .ok (.if_icmp .ge 110, 3) := by decide +kernel
theorem dX12_ask_48 : decode cX12_ask 48 = .ok (.iconst 0, 1) := by decide +kernel
theorem dX12_ask_49 : decode cX12_ask 49 = .ok (.istore 6, 2) := by decide +kernel
theorem dX12_ask_51 : decode cX12_ask 51 = .ok (.iconst 0, 1) := by decide +kernel
theorem dX12_ask_52 : decode cX12_ask 52 = .ok (.istore 7, 2) := by decide +kernel
theorem dX12_ask_54 : decode cX12_ask 54 = .ok (.iload 7, 2) := by decide +kernel
theorem dX12_ask_56 : decode cX12_ask 56 = .ok (.bipush 9, 2) := by decide +kernel
theorem dX12_ask_58 : decode cX12_ask 58 = .ok (.if_icmp .gt 56, 3) := by decide +kernel
theorem dX12_ask_61 : decode cX12_ask 61 = .ok (.iload 6, 2) := by decide +kernel
theorem dX12_ask_63 : decode cX12_ask 63 = .ok (.aload_n 0, 1) := by decide +kernel
theorem dX12_ask_64 : decode cX12_ask 64 = .ok (.iload_n 1, 1) := by decide +kernel
theorem dX12_ask_65 : decode cX12_ask 65 = .ok (.iload 5, 2) := by decide +kernel
theorem dX12_ask_67 : decode cX12_ask 67 = .ok (.invokevirtual 316, 3) := by decide +kernel
theorem dX12_ask_70 : decode cX12_ask 70 = .ok (.ifCond .eq 13, 3) := by decide +kernel
theorem dX12_ask_73 : decode cX12_ask 73 = .ok (.aload_n 0, 1) := by decide +kernel
theorem dX12_ask_74 : decode cX12_ask 74 = .ok (.iload_n 1, 1) := by decide +kernel
theorem dX12_ask_75 : decode cX12_ask 75 = .ok (.iload 7, 2) := by decide +kernel
theorem dX12_ask_77 : decode cX12_ask 77 = .ok (.invokevirtual 395, 3) := by decide +kernel
theorem dX12_ask_80 : decode cX12_ask 80 = .ok (.ifCond .ne 7, 3) := by decide +kernel
theorem dX12_ask_83 : decode cX12_ask 83 = .ok (.iconst 0, 1) := by decide +kernel
theorem dX12_ask_84 : decode cX12_ask 84 = .ok (.goto 21, 3) := by decide +kernel
theorem dX12_ask_87 : decode cX12_ask 87 = .ok (.aload_n 0, 1) := by decide +kernel
theorem dX12_ask_88 : decode cX12_ask 88 = .ok (.iload_n 1, 1) := by decide +kernel
theorem dX12_ask_89 : decode cX12_ask 89 = .ok (.iload 5, 2) := by decide +kernel
theorem dX12_ask_91 : decode cX12_ask 91 = .ok (.iload 7, 2) := by decide +kernel
theorem dX12_ask_93 : decode cX12_ask 93 = .ok (.invokevirtual 392, 3) := by decide +kernel
theorem dX12_ask_96 : decode cX12_ask 96 = .ok (.iload_n 2, 1) := by decide +kernel
theorem dX12_ask_97 : decode cX12_ask 97 = .ok (.if_icmp .lt 7, 3) := by decide +kernel
theorem dX12_ask_100 : decode cX12_ask 100 = .ok (.iconst 1, 1) := by decide +kernel
theorem dX12_ask_101 : decode cX12_ask 101 = .ok (.goto 4, 3) := by decide +kernel
theorem dX12_ask_104 : decode cX12_ask 104 = .ok (.iconst (-1), 1) := by decide +kernel
theorem dX12_ask_105 : decode cX12_ask 105 = .ok (.iadd, 1) := by decide +kernel
theorem dX12_ask_106 : decode cX12_ask 106 = .ok (.istore 6, 2) := by decide +kernel
theorem dX12_ask_108 : decode cX12_ask 108 = .ok (.iinc 7 1, 3) := by decide +kernel
theorem dX12_ask_111 : decode cX12_ask 111 = .ok (.goto (-57), 3) := by decide +kernel
theorem dX12_ask_114 : decode cX12_ask 114 = .ok (.aload_n 0, 1) := by decide +kernel
theorem dX12_ask_115 : decode cX12_ask 115 = .ok (.iload_n 1, 1) := by decide +kernel
theorem dX12_ask_116 : decode cX12_ask 116 = .ok (.iload 5, 2) := by decide +kernel
theorem dX12_ask_118 : decode cX12_ask 118 = .ok (.invokevirtual 316, 3) := by decide +kernel
theorem dX12_ask_121 : decode cX12_ask 121 = .ok (.ifCond .eq 28, 3) := by decide +kernel
theorem dX12_ask_124 : decode cX12_ask 124 = .ok (.iload_n 3, 1) := by decide +kernel
theorem dX12_ask_125 : decode cX12_ask 125 = .ok (.iconst (-1), 1) := by decide +kernel
theorem dX12_ask_126 : decode cX12_ask 126 = .ok (.if_icmp .eq 13, 3) := by decide +kernel
theorem dX12_ask_129 : decode cX12_ask 129 = .ok (.iload 6, 2) := by decide +kernel
theorem dX12_ask_131 : decode cX12_ask 131 = .ok (.invokestatic 401, 3) := by decide +kernel
theorem dX12_ask_134 : decode cX12_ask 134 = .ok (.iload 4, 2) := by decide +kernel
theorem dX12_ask_136 : decode cX12_ask 136 = .ok (.if_icmp .ge 13, 3) := by decide +kernel
theorem dX12_ask_139 : decode cX12_ask 139 = .ok (.iload 5, 2) := by decide +kernel
theorem dX12_ask_141 : decode cX12_ask 141 = .ok (.istore_n 3, 1) := by decide +kernel
theorem dX12_ask_142 : decode cX12_ask 142 = .ok (.iload 6, 2) := by decide +kernel
theorem dX12_ask_144 : decode cX12_ask 144 = .ok (.invokestatic 401, 3) := by decide +kernel
theorem dX12_ask_147 : decode cX12_ask 147 = .ok (.istore 4, 2) := by decide +kernel
theorem dX12_ask_149 : decode cX12_ask 149 = .ok (.iinc 5 1, 3) := by decide +kernel
theorem dX12_ask_152 : decode cX12_ask 152 = .ok (.goto (-113), 3) := by decide +kernel
theorem dX12_ask_155 : decode cX12_ask 155 = .ok (.iload_n 3, 1) := by decide +kernel
theorem dX12_ask_156 : decode cX12_ask 156 = .ok (.ireturn, 1) := by decide +kernel
set_option maxRecDepth 20000 in
theorem ggX12_gloveOf_X12_of : GoodIn wsX12_gloveOf wsX12_of := goodIn_r _ [6, 7, 8, 9, 10, 11, 12, 13, 14, 15, 16, 17, 18, 19, 20, 21, 22, 23, 24, 25, 26, 27, 28, 29, 30, 31, 32, 33, 34, 35, 36, 37, 38, 39, 40, 41, 42, 43, 44, 45, 46, 47, 48, 49, 50, 51, 52, 53] (by decide +kernel) (by decide +kernel)
set_option maxRecDepth 20000 in
theorem gX12_gloveOf_X12_of : GoodIn wsX12_gloveOf (wsV RX12 258 RX12 yX12_of wsX12_of) := goodIn_app (goodIn_of _ (by decide +kernel)) ggX12_gloveOf_X12_of
theorem dX12_gloveOf_0 : decode cX12_gloveOf 0 = .ok (.iconst 0, 1) := by decide +kernel
theorem dX12_gloveOf_1 : decode cX12_gloveOf 1 = .ok (.istore_n 3, 1) := by decide +kernel
theorem dX12_gloveOf_2 : decode cX12_gloveOf 2 = .ok (.iconst 0, 1) := by decide +kernel
theorem dX12_gloveOf_3 : decode cX12_gloveOf 3 = .ok (.istore 4, 2) := by decide +kernel
theorem dX12_gloveOf_5 : decode cX12_gloveOf 5 = .ok (.iload 4, 2) := by decide +kernel
theorem dX12_gloveOf_7 : decode cX12_gloveOf 7 = .ok (.aload_n 0, 1) := by decide +kernel
theorem dX12_gloveOf_8 : decode cX12_gloveOf 8 = .ok (.getfield 252, 3) := by decide +kernel
theorem dX12_gloveOf_11 : decode cX12_gloveOf 11 = .ok (.if_icmp .ge 31, 3) := by decide +kernel
theorem dX12_gloveOf_14 : decode cX12_gloveOf 14 = .ok (.aload_n 0, 1) := by decide +kernel
theorem dX12_gloveOf_15 : decode cX12_gloveOf 15 = .ok (.iload 4, 2) := by decide +kernel
theorem dX12_gloveOf_17 : decode cX12_gloveOf 17 = .ok (.iconst 0, 1) := by decide +kernel
theorem dX12_gloveOf_18 : decode cX12_gloveOf 18 = .ok (.invokevirtual 258, 3) := by decide +kernel
theorem dX12_gloveOf_21 : decode cX12_gloveOf 21 = .ok (.iload_n 1, 1) := by decide +kernel
theorem dX12_gloveOf_22 : decode cX12_gloveOf 22 = .ok (.if_icmp .ne 14, 3) := by decide +kernel
theorem dX12_gloveOf_25 : decode cX12_gloveOf 25 = .ok (.iload_n 3, 1) := by decide +kernel
theorem dX12_gloveOf_26 : decode cX12_gloveOf 26 = .ok (.iload_n 2, 1) := by decide +kernel
theorem dX12_gloveOf_27 : decode cX12_gloveOf 27 = .ok (.if_icmp .ne 6, 3) := by decide +kernel
theorem dX12_gloveOf_30 : decode cX12_gloveOf 30 = .ok (.iload 4, 2) := by decide +kernel
theorem dX12_gloveOf_32 : decode cX12_gloveOf 32 = .ok (.ireturn, 1) := by decide +kernel
theorem dX12_gloveOf_33 : decode cX12_gloveOf 33 = .ok (.iinc 3 1, 3) := by decide +kernel
theorem dX12_gloveOf_36 : decode cX12_gloveOf 36 = .ok (.iinc 4 1, 3) := by decide +kernel
theorem dX12_gloveOf_39 : decode cX12_gloveOf 39 = .ok (.goto (-34), 3) := by decide +kernel
theorem dX12_gloveOf_42 : decode cX12_gloveOf 42 = .ok (.iconst (-1), 1) := by decide +kernel
theorem dX12_gloveOf_43 : decode cX12_gloveOf 43 = .ok (.ireturn, 1) := by decide +kernel
set_option maxRecDepth 20000 in
theorem ggX12_gameOf_X12_gloveOf : GoodIn wsX12_gameOf wsX12_gloveOf := goodIn_r _ [6, 7, 8, 9, 10, 5, 11, 12, 70, 71, 72, 73, 74, 75, 76, 77, 78, 79, 80, 81, 82, 83, 84, 85, 86, 87, 88, 89, 90, 91, 92, 93, 94, 95, 96, 97, 98, 99, 100, 101, 102, 103, 104, 105, 106, 107, 108, 109, 110, 111, 112, 113, 114, 115] (by decide +kernel) (by decide +kernel)
set_option maxRecDepth 20000 in
theorem gX12_gameOf_X12_gloveOf : GoodIn wsX12_gameOf (wsV RX12 404 RX12 yX12_gloveOf wsX12_gloveOf) := goodIn_app (goodIn_of _ (by decide +kernel)) ggX12_gameOf_X12_gloveOf
set_option maxRecDepth 20000 in
theorem ggX12_gameOf_X12_riseOf : GoodIn wsX12_gameOf wsX12_riseOf := goodIn_r _ [16, 1, 17, 18, 5, 19, 20, 21, 22, 23, 24, 25, 26, 27, 28, 29, 30, 31, 32, 33, 34, 8, 9, 10, 11, 12, 35, 36, 37, 38, 39, 40, 41, 42, 43, 44, 45, 46, 47, 48, 49, 50, 51, 52, 53, 54, 55, 56, 57, 58, 59, 60, 61, 62, 63, 64, 65, 66, 67, 68, 69, 70, 71, 72, 73, 74, 75, 76, 77, 78, 79, 80, 81, 82, 83, 84, 85, 86, 87, 88, 89, 90, 91, 92, 93, 94, 95, 96, 97, 98, 99, 100, 101, 102, 103, 104, 105, 106, 107, 108, 109, 110, 111, 112, 113, 114, 115] (by decide +kernel) (by decide +kernel)
set_option maxRecDepth 20000 in
theorem gX12_gameOf_X12_riseOf : GoodIn wsX12_gameOf (wsV RX12 304 RX12 yX12_riseOf wsX12_riseOf) := goodIn_app (goodIn_of _ (by decide +kernel)) ggX12_gameOf_X12_riseOf
theorem dX12_gameOf_0 : decode cX12_gameOf 0 = .ok (.aload_n 0, 1) := by decide +kernel
theorem dX12_gameOf_1 : decode cX12_gameOf 1 = .ok (.iconst 0, 1) := by decide +kernel
theorem dX12_gameOf_2 : decode cX12_gameOf 2 = .ok (.iload_n 1, 1) := by decide +kernel
theorem dX12_gameOf_3 : decode cX12_gameOf 3 = .ok (.invokevirtual 404, 3) := by decide +kernel
theorem dX12_gameOf_6 : decode cX12_gameOf 6 = .ok (.istore 4, 2) := by decide +kernel
theorem dX12_gameOf_8 : decode cX12_gameOf 8 = .ok (.aload_n 0, 1) := by decide +kernel
theorem dX12_gameOf_9 : decode cX12_gameOf 9 = .ok (.iconst 1, 1) := by decide +kernel
theorem dX12_gameOf_10 : decode cX12_gameOf 10 = .ok (.iload_n 2, 1) := by decide +kernel
theorem dX12_gameOf_11 : decode cX12_gameOf 11 = .ok (.invokevirtual 404, 3) := by decide +kernel
theorem dX12_gameOf_14 : decode cX12_gameOf 14 = .ok (.istore 5, 2) := by decide +kernel
theorem dX12_gameOf_16 : decode cX12_gameOf 16 = .ok (.iload_n 3, 1) := by decide +kernel
theorem dX12_gameOf_17 : decode cX12_gameOf 17 = .ok (.ifCond .ne 8, 3) := by decide +kernel
theorem dX12_gameOf_20 : decode cX12_gameOf 20 = .ok (.iload 4, 2) := by decide +kernel
theorem dX12_gameOf_22 : decode cX12_gameOf 22 = .ok (.goto 5, 3) := by decide +kernel
theorem dX12_gameOf_25 : decode cX12_gameOf 25 = .ok (.iload 5, 2) := by decide +kernel
theorem dX12_gameOf_27 : decode cX12_gameOf 27 = .ok (.istore 6, 2) := by decide +kernel
theorem dX12_gameOf_29 : decode cX12_gameOf 29 = .ok (.iload 6, 2) := by decide +kernel
theorem dX12_gameOf_31 : decode cX12_gameOf 31 = .ok (.iconst (-1), 1) := by decide +kernel
theorem dX12_gameOf_32 : decode cX12_gameOf 32 = .ok (.if_icmp .ne 6, 3) := by decide +kernel
theorem dX12_gameOf_35 : decode cX12_gameOf 35 = .ok (.bipush (-20), 2) := by decide +kernel
theorem dX12_gameOf_37 : decode cX12_gameOf 37 = .ok (.ireturn, 1) := by decide +kernel
theorem dX12_gameOf_38 : decode cX12_gameOf 38 = .ok (.iload 4, 2) := by decide +kernel
theorem dX12_gameOf_40 : decode cX12_gameOf 40 = .ok (.iconst (-1), 1) := by decide +kernel
theorem dX12_gameOf_41 : decode cX12_gameOf 41 = .ok (.if_icmp .eq 9, 3) := by decide +kernel
theorem dX12_gameOf_44 : decode cX12_gameOf 44 = .ok (.iload 5, 2) := by decide +kernel
theorem dX12_gameOf_46 : decode cX12_gameOf 46 = .ok (.iconst (-1), 1) := by decide +kernel
theorem dX12_gameOf_47 : decode cX12_gameOf 47 = .ok (.if_icmp .ne 7, 3) := by decide +kernel
theorem dX12_gameOf_50 : decode cX12_gameOf 50 = .ok (.iconst 0, 1) := by decide +kernel
theorem dX12_gameOf_51 : decode cX12_gameOf 51 = .ok (.goto 24, 3) := by decide +kernel
theorem dX12_gameOf_54 : decode cX12_gameOf 54 = .ok (.aload_n 0, 1) := by decide +kernel
theorem dX12_gameOf_55 : decode cX12_gameOf 55 = .ok (.iload 4, 2) := by decide +kernel
theorem dX12_gameOf_57 : decode cX12_gameOf 57 = .ok (.iload 5, 2) := by decide +kernel
theorem dX12_gameOf_59 : decode cX12_gameOf 59 = .ok (.invokevirtual 304, 3) := by decide +kernel
theorem dX12_gameOf_62 : decode cX12_gameOf 62 = .ok (.aload_n 0, 1) := by decide +kernel
theorem dX12_gameOf_63 : decode cX12_gameOf 63 = .ok (.getfield 58, 3) := by decide +kernel
theorem dX12_gameOf_66 : decode cX12_gameOf 66 = .ok (.bipush 36, 2) := by decide +kernel
theorem dX12_gameOf_68 : decode cX12_gameOf 68 = .ok (.iload 6, 2) := by decide +kernel
theorem dX12_gameOf_70 : decode cX12_gameOf 70 = .ok (.iadd, 1) := by decide +kernel
theorem dX12_gameOf_71 : decode cX12_gameOf 71 = .ok (.iaload, 1) := by decide +kernel
theorem dX12_gameOf_72 : decode cX12_gameOf 72 = .ok (.iconst 3, 1) := by decide +kernel
theorem dX12_gameOf_73 : decode cX12_gameOf 73 = .ok (.idiv, 1) := by decide +kernel
theorem dX12_gameOf_74 : decode cX12_gameOf 74 = .ok (.isub, 1) := by decide +kernel
theorem dX12_gameOf_75 : decode cX12_gameOf 75 = .ok (.ireturn, 1) := by decide +kernel
set_option maxRecDepth 20000 in
theorem ggX12_game_X12_in : GoodIn wsX12_game wsX12_in := goodIn_r _ [6] (by decide +kernel) (by decide +kernel)
set_option maxRecDepth 20000 in
theorem gX12_game_X12_in : GoodIn wsX12_game (va_wsS RX12 211 yX12_in wsX12_in) := goodIn_app (goodIn_of _ (by decide +kernel)) ggX12_game_X12_in
set_option maxRecDepth 20000 in
theorem ggX12_game_X12_gameOf : GoodIn wsX12_game wsX12_gameOf := goodIn_r _ [10, 11, 12, 13, 14, 5, 15, 1, 16, 17, 18, 19, 20, 21, 22, 23, 24, 25, 26, 27, 28, 29, 30, 31, 32, 33, 34, 35, 36, 37, 38, 39, 40, 41, 42, 43, 44, 45, 46, 47, 48, 49, 50, 51, 52, 53, 54, 55, 56, 57, 58, 59, 60, 61, 62, 63, 64, 65, 66, 67, 68, 69, 70, 71, 72, 73, 74, 75, 76, 77, 78, 79, 80, 81, 82, 83, 84, 85, 86, 87, 88, 89, 90, 91, 92, 93, 94, 95, 96, 97, 98, 99, 100, 101, 102, 103, 104, 105, 106, 107, 108, 109, 110, 111, 112, 113, 114, 115, 116, 117, 118, 119, 120, 121, 122, 123] (by decide +kernel) (by decide +kernel)
set_option maxRecDepth 20000 in
theorem gX12_game_X12_gameOf : GoodIn wsX12_game (wsV RX12 407 RX12 yX12_gameOf wsX12_gameOf) := goodIn_app (goodIn_of _ (by decide +kernel)) ggX12_game_X12_gameOf
theorem dX12_game_0 : decode cX12_game 0 = .ok (.aload_n 0, 1) := by decide +kernel
theorem dX12_game_1 : decode cX12_game 1 = .ok (.getfield 252, 3) := by decide +kernel
theorem dX12_game_4 : decode cX12_game 4 = .ok (.ifCond .eq 30, 3) := by decide +kernel
theorem dX12_game_7 : decode cX12_game 7 = .ok (.iload_n 1, 1) := by decide +kernel
theorem dX12_game_8 : decode cX12_game 8 = .ok (.iconst 0, 1) := by decide +kernel
theorem dX12_game_9 : decode cX12_game 9 = .ok (.iconst 4, 1) := by decide +kernel
theorem dX12_game_10 : decode cX12_game 10 = .ok (.invokestatic 211, 3) := by decide +kernel
theorem dX12_game_13 : decode cX12_game 13 = .ok (.ifCond .eq 21, 3) := by decide +kernel
theorem dX12_game_16 : decode cX12_game 16 = .ok (.iload_n 2, 1) := by decide +kernel
theorem dX12_game_17 : decode cX12_game 17 = .ok (.iconst 0, 1) := by decide +kernel
theorem dX12_game_18 : decode cX12_game 18 = .ok (.iconst 4, 1) := by decide +kernel
theorem dX12_game_19 : decode cX12_game 19 = .ok (.invokestatic 211, 3) := by decide +kernel
theorem dX12_game_22 : decode cX12_game 22 = .ok (.ifCond .eq 12, 3) := by decide +kernel
theorem dX12_game_25 : decode cX12_game 25 = .ok (.iload_n 3, 1) := by decide +kernel
theorem dX12_game_26 : decode cX12_game 26 = .ok (.iconst 0, 1) := by decide +kernel
theorem dX12_game_27 : decode cX12_game 27 = .ok (.iconst 1, 1) := by decide +kernel
theorem dX12_game_28 : decode cX12_game 28 = .ok (.invokestatic 211, 3) := by decide +kernel
theorem dX12_game_31 : decode cX12_game 31 = .ok (.ifCond .ne 9, 3) := by decide +kernel
theorem dX12_game_34 : decode cX12_game 34 = .ok (.ldc_w 363, 3) := by decide +kernel
theorem dX12_game_37 : decode cX12_game 37 = .ok (.goto 10, 3) := by decide +kernel
theorem dX12_game_40 : decode cX12_game 40 = .ok (.aload_n 0, 1) := by decide +kernel
theorem dX12_game_41 : decode cX12_game 41 = .ok (.iload_n 1, 1) := by decide +kernel
theorem dX12_game_42 : decode cX12_game 42 = .ok (.iload_n 2, 1) := by decide +kernel
theorem dX12_game_43 : decode cX12_game 43 = .ok (.iload_n 3, 1) := by decide +kernel
theorem dX12_game_44 : decode cX12_game 44 = .ok (.invokevirtual 407, 3) := by decide +kernel
theorem dX12_game_47 : decode cX12_game 47 = .ok (.ireturn, 1) := by decide +kernel
set_option maxRecDepth 20000 in
theorem ggX12_manyOf_X12_of : GoodIn wsX12_manyOf wsX12_of := goodIn_r _ [6, 7, 8, 9, 10, 11, 12, 13, 14, 15, 16, 17, 18, 19, 20, 21, 22, 23, 24, 25, 26, 27, 28, 29, 30, 31, 32, 33, 34, 35, 36, 37, 38, 39, 40, 41, 42, 43, 44, 45, 46, 47, 48, 49, 50, 51, 52, 53] (by decide +kernel) (by decide +kernel)
set_option maxRecDepth 20000 in
theorem gX12_manyOf_X12_of : GoodIn wsX12_manyOf (wsV RX12 258 RX12 yX12_of wsX12_of) := goodIn_app (goodIn_of _ (by decide +kernel)) ggX12_manyOf_X12_of
theorem dX12_manyOf_0 : decode cX12_manyOf 0 = .ok (.iconst 0, 1) := by decide +kernel
theorem dX12_manyOf_1 : decode cX12_manyOf 1 = .ok (.istore_n 2, 1) := by decide +kernel
theorem dX12_manyOf_2 : decode cX12_manyOf 2 = .ok (.iconst 0, 1) := by decide +kernel
theorem dX12_manyOf_3 : decode cX12_manyOf 3 = .ok (.istore_n 3, 1) := by decide +kernel
theorem dX12_manyOf_4 : decode cX12_manyOf 4 = .ok (.iload_n 3, 1) := by decide +kernel
theorem dX12_manyOf_5 : decode cX12_manyOf 5 = .ok (.aload_n 0, 1) := by decide +kernel
theorem dX12_manyOf_6 : decode cX12_manyOf 6 = .ok (.getfield 252, 3) := by decide +kernel
theorem dX12_manyOf_9 : decode cX12_manyOf 9 = .ok (.if_icmp .ge 27, 3) := by decide +kernel
theorem dX12_manyOf_12 : decode cX12_manyOf 12 = .ok (.iload_n 2, 1) := by decide +kernel
theorem dX12_manyOf_13 : decode cX12_manyOf 13 = .ok (.aload_n 0, 1) := by decide +kernel
theorem dX12_manyOf_14 : decode cX12_manyOf 14 = .ok (.iload_n 3, 1) := by decide +kernel
theorem dX12_manyOf_15 : decode cX12_manyOf 15 = .ok (.iconst 0, 1) := by decide +kernel
theorem dX12_manyOf_16 : decode cX12_manyOf 16 = .ok (.invokevirtual 258, 3) := by decide +kernel
theorem dX12_manyOf_19 : decode cX12_manyOf 19 = .ok (.iload_n 1, 1) := by decide +kernel
theorem dX12_manyOf_20 : decode cX12_manyOf 20 = .ok (.if_icmp .ne 7, 3) := by decide +kernel
theorem dX12_manyOf_23 : decode cX12_manyOf 23 = .ok (.iconst 1, 1) := by decide +kernel
theorem dX12_manyOf_24 : decode cX12_manyOf 24 = .ok (.goto 4, 3) := by decide +kernel
theorem dX12_manyOf_27 : decode cX12_manyOf 27 = .ok (.iconst 0, 1) := by decide +kernel
theorem dX12_manyOf_28 : decode cX12_manyOf 28 = .ok (.iadd, 1) := by decide +kernel
theorem dX12_manyOf_29 : decode cX12_manyOf 29 = .ok (.istore_n 2, 1) := by decide +kernel
theorem dX12_manyOf_30 : decode cX12_manyOf 30 = .ok (.iinc 3 1, 3) := by decide +kernel
theorem dX12_manyOf_33 : decode cX12_manyOf 33 = .ok (.goto (-29), 3) := by decide +kernel
theorem dX12_manyOf_36 : decode cX12_manyOf 36 = .ok (.iload_n 2, 1) := by decide +kernel
theorem dX12_manyOf_37 : decode cX12_manyOf 37 = .ok (.ireturn, 1) := by decide +kernel
set_option maxRecDepth 20000 in
theorem ggX12_leastOf_X12_manyOf : GoodIn wsX12_leastOf wsX12_manyOf := goodIn_r _ [9, 10, 11, 12, 13, 8, 14, 15, 78, 79, 80, 81, 82, 83, 84, 85, 86, 87, 88, 89, 90, 91, 92, 93, 94, 95, 96, 97, 98, 99, 100, 101, 102, 103, 104, 105, 106, 107, 108, 109, 110, 111, 112, 113, 114, 115, 116, 117, 118, 119, 120, 121, 122, 123] (by decide +kernel) (by decide +kernel)
set_option maxRecDepth 20000 in
theorem gX12_leastOf_X12_manyOf : GoodIn wsX12_leastOf (wsV RX12 410 RX12 yX12_manyOf wsX12_manyOf) := goodIn_app (goodIn_of _ (by decide +kernel)) ggX12_leastOf_X12_manyOf
set_option maxRecDepth 20000 in
theorem ggX12_leastOf_X12_gameOf : GoodIn wsX12_leastOf wsX12_gameOf := goodIn_r _ [19, 20, 21, 22, 23, 8, 24, 10, 11, 12, 13, 14, 15, 25, 26, 27, 28, 29, 30, 31, 1, 2, 3, 4, 32, 33, 34, 35, 36, 37, 38, 39, 40, 41, 42, 43, 44, 45, 46, 47, 48, 49, 50, 51, 52, 53, 54, 55, 56, 57, 58, 59, 60, 61, 62, 63, 64, 65, 66, 67, 68, 69, 70, 71, 72, 73, 74, 75, 76, 77, 78, 79, 80, 81, 82, 83, 84, 85, 86, 87, 88, 89, 90, 91, 92, 93, 94, 95, 96, 97, 98, 99, 100, 101, 102, 103, 104, 105, 106, 107, 108, 109, 110, 111, 112, 113, 114, 115, 116, 117, 118, 119, 120, 121, 122, 123] (by decide +kernel) (by decide +kernel)
set_option maxRecDepth 20000 in
theorem gX12_leastOf_X12_gameOf : GoodIn wsX12_leastOf (wsV RX12 407 RX12 yX12_gameOf wsX12_gameOf) := goodIn_app (goodIn_of _ (by decide +kernel)) ggX12_leastOf_X12_gameOf
theorem dX12_leastOf_0 : decode cX12_leastOf 0 = .ok (.bipush 99, 2) := by decide +kernel
theorem dX12_leastOf_2 : decode cX12_leastOf 2 = .ok (.istore_n 3, 1) := by decide +kernel
theorem dX12_leastOf_3 : decode cX12_leastOf 3 = .ok (.iconst 0, 1) := by decide +kernel
theorem dX12_leastOf_4 : decode cX12_leastOf 4 = .ok (.istore 4, 2) := by decide +kernel
theorem dX12_leastOf_6 : decode cX12_leastOf 6 = .ok (.iload 4, 2) := by decide +kernel
theorem dX12_leastOf_8 : decode cX12_leastOf 8 = .ok (.aload_n 0, 1) := by decide +kernel
theorem dX12_leastOf_9 : decode cX12_leastOf 9 = .ok (.iconst 1, 1) := by decide +kernel
theorem dX12_leastOf_10 : decode cX12_leastOf 10 = .ok (.iload_n 1, 1) := by decide +kernel
theorem dX12_leastOf_11 : decode cX12_leastOf 11 = .ok (.isub, 1) := by decide +kernel
theorem dX12_leastOf_12 : decode cX12_leastOf 12 = .ok (.invokevirtual 410, 3) := by decide +kernel
theorem dX12_leastOf_15 : decode cX12_leastOf 15 = .ok (.if_icmp .ge 37, 3) := by decide +kernel
theorem dX12_leastOf_18 : decode cX12_leastOf 18 = .ok (.iload_n 3, 1) := by decide +kernel
theorem dX12_leastOf_19 : decode cX12_leastOf 19 = .ok (.iload_n 1, 1) := by decide +kernel
theorem dX12_leastOf_20 : decode cX12_leastOf 20 = .ok (.ifCond .ne 14, 3) := by decide +kernel
theorem dX12_leastOf_23 : decode cX12_leastOf 23 = .ok (.aload_n 0, 1) := by decide +kernel
theorem dX12_leastOf_24 : decode cX12_leastOf 24 = .ok (.iload_n 2, 1) := by decide +kernel
theorem dX12_leastOf_25 : decode cX12_leastOf 25 = .ok (.iload 4, 2) := by decide +kernel
theorem dX12_leastOf_27 : decode cX12_leastOf 27 = .ok (.iconst 0, 1) := by decide +kernel
theorem dX12_leastOf_28 : decode cX12_leastOf 28 = .ok (.invokevirtual 407, 3) := by decide +kernel
theorem dX12_leastOf_31 : decode cX12_leastOf 31 = .ok (.goto 11, 3) := by decide +kernel
theorem dX12_leastOf_34 : decode cX12_leastOf 34 = .ok (.aload_n 0, 1) := by decide +kernel
theorem dX12_leastOf_35 : decode cX12_leastOf 35 = .ok (.iload 4, 2) := by decide +kernel
theorem dX12_leastOf_37 : decode cX12_leastOf 37 = .ok (.iload_n 2, 1) := by decide +kernel
theorem dX12_leastOf_38 : decode cX12_leastOf 38 = .ok (.iconst 1, 1) := by decide +kernel
theorem dX12_leastOf_39 : decode cX12_leastOf 39 = .ok (.invokevirtual 407, 3) := by decide +kernel
theorem dX12_leastOf_42 : decode cX12_leastOf 42 = .ok (.invokestatic 280, 3) := by decide +kernel
theorem dX12_leastOf_45 : decode cX12_leastOf 45 = .ok (.istore_n 3, 1) := by decide +kernel
theorem dX12_leastOf_46 : decode cX12_leastOf 46 = .ok (.iinc 4 1, 3) := by decide +kernel
theorem dX12_leastOf_49 : decode cX12_leastOf 49 = .ok (.goto (-43), 3) := by decide +kernel
theorem dX12_leastOf_52 : decode cX12_leastOf 52 = .ok (.iload_n 3, 1) := by decide +kernel
theorem dX12_leastOf_53 : decode cX12_leastOf 53 = .ok (.ireturn, 1) := by decide +kernel
set_option maxRecDepth 20000 in
theorem ggX12_sure_X12_in : GoodIn wsX12_sure wsX12_in := goodIn_r _ [10] (by decide +kernel) (by decide +kernel)
set_option maxRecDepth 20000 in
theorem gX12_sure_X12_in : GoodIn wsX12_sure (va_wsS RX12 211 yX12_in wsX12_in) := goodIn_app (goodIn_of _ (by decide +kernel)) ggX12_sure_X12_in
set_option maxRecDepth 20000 in
theorem ggX12_sure_X12_manyOf : GoodIn wsX12_sure wsX12_manyOf := goodIn_r _ [14, 1, 15, 16, 17, 9, 18, 19, 86, 87, 88, 89, 90, 91, 92, 93, 94, 95, 96, 97, 98, 99, 100, 101, 102, 103, 104, 105, 106, 107, 108, 109, 110, 111, 112, 113, 114, 115, 116, 117, 118, 119, 120, 121, 122, 123, 124, 125, 126, 127, 128, 129, 130, 131] (by decide +kernel) (by decide +kernel)
set_option maxRecDepth 20000 in
theorem gX12_sure_X12_manyOf : GoodIn wsX12_sure (wsV RX12 410 RX12 yX12_manyOf wsX12_manyOf) := goodIn_app (goodIn_of _ (by decide +kernel)) ggX12_sure_X12_manyOf
set_option maxRecDepth 20000 in
theorem ggX12_sure_X12_leastOf : GoodIn wsX12_sure wsX12_leastOf := goodIn_r _ [23, 24, 25, 5, 26, 11, 12, 13, 9, 14, 1, 15, 16, 17, 18, 19, 27, 28, 29, 30, 31, 32, 33, 34, 35, 36, 37, 38, 39, 40, 41, 42, 3, 4, 6, 43, 44, 45, 46, 47, 48, 49, 50, 51, 52, 53, 54, 55, 56, 57, 58, 59, 60, 61, 62, 63, 64, 65, 66, 67, 68, 69, 70, 71, 72, 73, 74, 75, 76, 77, 78, 79, 80, 81, 82, 83, 84, 85, 86, 87, 88, 89, 90, 91, 92, 93, 94, 95, 96, 97, 98, 99, 100, 101, 102, 103, 104, 105, 106, 107, 108, 109, 110, 111, 112, 113, 114, 115, 116, 117, 118, 119, 120, 121, 122, 123, 124, 125, 126, 127, 128, 129, 130, 131] (by decide +kernel) (by decide +kernel)
set_option maxRecDepth 20000 in
theorem gX12_sure_X12_leastOf : GoodIn wsX12_sure (wsV RX12 413 RX12 yX12_leastOf wsX12_leastOf) := goodIn_app (goodIn_of _ (by decide +kernel)) ggX12_sure_X12_leastOf
theorem dX12_sure_0 : decode cX12_sure 0 = .ok (.aload_n 0, 1) := by decide +kernel
theorem dX12_sure_1 : decode cX12_sure 1 = .ok (.getfield 252, 3) := by decide +kernel
theorem dX12_sure_4 : decode cX12_sure 4 = .ok (.ifCond .eq 12, 3) := by decide +kernel
theorem dX12_sure_7 : decode cX12_sure 7 = .ok (.iload_n 1, 1) := by decide +kernel
theorem dX12_sure_8 : decode cX12_sure 8 = .ok (.iconst 0, 1) := by decide +kernel
theorem dX12_sure_9 : decode cX12_sure 9 = .ok (.iconst 1, 1) := by decide +kernel
theorem dX12_sure_10 : decode cX12_sure 10 = .ok (.invokestatic 211, 3) := by decide +kernel
theorem dX12_sure_13 : decode cX12_sure 13 = .ok (.ifCond .ne 7, 3) := by decide +kernel
theorem dX12_sure_16 : decode cX12_sure 16 = .ok (.ldc_w 363, 3) := by decide +kernel
theorem dX12_sure_19 : decode cX12_sure 19 = .ok (.ireturn, 1) := by decide +kernel
theorem dX12_sure_20 : decode cX12_sure 20 = .ok (.ldc_w 363, 3) := by decide +kernel
theorem dX12_sure_23 : decode cX12_sure 23 = .ok (.istore_n 2, 1) := by decide +kernel
theorem dX12_sure_24 : decode cX12_sure 24 = .ok (.iconst 0, 1) := by decide +kernel
theorem dX12_sure_25 : decode cX12_sure 25 = .ok (.istore_n 3, 1) := by decide +kernel
theorem dX12_sure_26 : decode cX12_sure 26 = .ok (.iload_n 3, 1) := by decide +kernel
theorem dX12_sure_27 : decode cX12_sure 27 = .ok (.aload_n 0, 1) := by decide +kernel
theorem dX12_sure_28 : decode cX12_sure 28 = .ok (.iload_n 1, 1) := by decide +kernel
theorem dX12_sure_29 : decode cX12_sure 29 = .ok (.invokevirtual 410, 3) := by decide +kernel
theorem dX12_sure_32 : decode cX12_sure 32 = .ok (.if_icmp .ge 20, 3) := by decide +kernel
theorem dX12_sure_35 : decode cX12_sure 35 = .ok (.iload_n 2, 1) := by decide +kernel
theorem dX12_sure_36 : decode cX12_sure 36 = .ok (.aload_n 0, 1) := by decide +kernel
theorem dX12_sure_37 : decode cX12_sure 37 = .ok (.iload_n 1, 1) := by decide +kernel
theorem dX12_sure_38 : decode cX12_sure 38 = .ok (.iload_n 3, 1) := by decide +kernel
theorem dX12_sure_39 : decode cX12_sure 39 = .ok (.invokevirtual 413, 3) := by decide +kernel
theorem dX12_sure_42 : decode cX12_sure 42 = .ok (.invokestatic 282, 3) := by decide +kernel
theorem dX12_sure_45 : decode cX12_sure 45 = .ok (.istore_n 2, 1) := by decide +kernel
theorem dX12_sure_46 : decode cX12_sure 46 = .ok (.iinc 3 1, 3) := by decide +kernel
theorem dX12_sure_49 : decode cX12_sure 49 = .ok (.goto (-23), 3) := by decide +kernel
theorem dX12_sure_52 : decode cX12_sure 52 = .ok (.iload_n 2, 1) := by decide +kernel
theorem dX12_sure_53 : decode cX12_sure 53 = .ok (.ireturn, 1) := by decide +kernel
set_option maxRecDepth 20000 in
theorem ggX12_isRest_X12_manyOf : GoodIn wsX12_isRest wsX12_manyOf := goodIn_r _ [5, 6, 7, 8, 9, 4, 10, 11, 78, 79, 80, 81, 82, 83, 84, 85, 86, 87, 88, 89, 90, 91, 92, 93, 94, 95, 96, 97, 98, 99, 100, 101, 102, 103, 104, 105, 106, 107, 108, 109, 110, 111, 112, 113, 114, 115, 116, 117, 118, 119, 120, 121, 122, 123] (by decide +kernel) (by decide +kernel)
set_option maxRecDepth 20000 in
theorem gX12_isRest_X12_manyOf : GoodIn wsX12_isRest (wsV RX12 410 RX12 yX12_manyOf wsX12_manyOf) := goodIn_app (goodIn_of _ (by decide +kernel)) ggX12_isRest_X12_manyOf
set_option maxRecDepth 20000 in
theorem ggX12_isRest_X12_gameOf : GoodIn wsX12_isRest wsX12_gameOf := goodIn_r _ [15, 16, 17, 18, 19, 4, 20, 6, 7, 8, 9, 10, 11, 21, 22, 23, 24, 25, 26, 27, 28, 29, 30, 31, 32, 33, 34, 35, 36, 37, 38, 39, 40, 41, 42, 43, 44, 45, 46, 47, 48, 49, 50, 51, 52, 53, 54, 55, 56, 57, 58, 59, 60, 61, 62, 63, 64, 65, 66, 67, 68, 69, 70, 71, 72, 73, 74, 75, 76, 77, 78, 79, 80, 81, 82, 83, 84, 85, 86, 87, 88, 89, 90, 91, 92, 93, 94, 95, 96, 97, 98, 99, 100, 101, 102, 103, 104, 105, 106, 107, 108, 109, 110, 111, 112, 113, 114, 115, 116, 117, 118, 119, 120, 121, 122, 123] (by decide +kernel) (by decide +kernel)
set_option maxRecDepth 20000 in
theorem gX12_isRest_X12_gameOf : GoodIn wsX12_isRest (wsV RX12 407 RX12 yX12_gameOf wsX12_gameOf) := goodIn_app (goodIn_of _ (by decide +kernel)) ggX12_isRest_X12_gameOf
theorem dX12_isRest_0 : decode cX12_isRest 0 = .ok (.iconst 1, 1) := by decide +kernel
theorem dX12_isRest_1 : decode cX12_isRest 1 = .ok (.istore_n 3, 1) := by decide +kernel
theorem dX12_isRest_2 : decode cX12_isRest 2 = .ok (.iconst 0, 1) := by decide +kernel
theorem dX12_isRest_3 : decode cX12_isRest 3 = .ok (.istore 4, 2) := by decide +kernel
theorem dX12_isRest_5 : decode cX12_isRest 5 = .ok (.iload 4, 2) := by decide +kernel
theorem dX12_isRest_7 : decode cX12_isRest 7 = .ok (.aload_n 0, 1) := by decide +kernel
theorem dX12_isRest_8 : decode cX12_isRest 8 = .ok (.iconst 0, 1) := by decide +kernel
theorem dX12_isRest_9 : decode cX12_isRest 9 = .ok (.invokevirtual 410, 3) := by decide +kernel
theorem dX12_isRest_12 : decode cX12_isRest 12 = .ok (.if_icmp .ge 37, 3) := by decide +kernel
theorem dX12_isRest_15 : decode cX12_isRest 15 = .ok (.iload_n 3, 1) := by decide +kernel
theorem dX12_isRest_16 : decode cX12_isRest 16 = .ok (.ifCond .eq 25, 3) := by decide +kernel
theorem dX12_isRest_19 : decode cX12_isRest 19 = .ok (.aload_n 0, 1) := by decide +kernel
theorem dX12_isRest_20 : decode cX12_isRest 20 = .ok (.iload 4, 2) := by decide +kernel
theorem dX12_isRest_22 : decode cX12_isRest 22 = .ok (.iload_n 2, 1) := by decide +kernel
theorem dX12_isRest_23 : decode cX12_isRest 23 = .ok (.iconst 0, 1) := by decide +kernel
theorem dX12_isRest_24 : decode cX12_isRest 24 = .ok (.invokevirtual 407, 3) := by decide +kernel
theorem dX12_isRest_27 : decode cX12_isRest 27 = .ok (.aload_n 0, 1) := by decide +kernel
theorem dX12_isRest_28 : decode cX12_isRest 28 = .ok (.iload_n 1, 1) := by decide +kernel
theorem dX12_isRest_29 : decode cX12_isRest 29 = .ok (.iload_n 2, 1) := by decide +kernel
theorem dX12_isRest_30 : decode cX12_isRest 30 = .ok (.iconst 0, 1) := by decide +kernel
theorem dX12_isRest_31 : decode cX12_isRest 31 = .ok (.invokevirtual 407, 3) := by decide +kernel
theorem dX12_isRest_34 : decode cX12_isRest 34 = .ok (.if_icmp .gt 7, 3) := by decide +kernel
theorem dX12_isRest_37 : decode cX12_isRest 37 = .ok (.iconst 1, 1) := by decide +kernel
theorem dX12_isRest_38 : decode cX12_isRest 38 = .ok (.goto 4, 3) := by decide +kernel
theorem dX12_isRest_41 : decode cX12_isRest 41 = .ok (.iconst 0, 1) := by decide +kernel
theorem dX12_isRest_42 : decode cX12_isRest 42 = .ok (.istore_n 3, 1) := by decide +kernel
theorem dX12_isRest_43 : decode cX12_isRest 43 = .ok (.iinc 4 1, 3) := by decide +kernel
theorem dX12_isRest_46 : decode cX12_isRest 46 = .ok (.goto (-41), 3) := by decide +kernel
theorem dX12_isRest_49 : decode cX12_isRest 49 = .ok (.iconst 0, 1) := by decide +kernel
theorem dX12_isRest_50 : decode cX12_isRest 50 = .ok (.istore 4, 2) := by decide +kernel
theorem dX12_isRest_52 : decode cX12_isRest 52 = .ok (.iload 4, 2) := by decide +kernel
theorem dX12_isRest_54 : decode cX12_isRest 54 = .ok (.aload_n 0, 1) := by decide +kernel
theorem dX12_isRest_55 : decode cX12_isRest 55 = .ok (.iconst 1, 1) := by decide +kernel
theorem dX12_isRest_56 : decode cX12_isRest 56 = .ok (.invokevirtual 410, 3) := by decide +kernel
theorem dX12_isRest_59 : decode cX12_isRest 59 = .ok (.if_icmp .ge 37, 3) := by decide +kernel
theorem dX12_isRest_62 : decode cX12_isRest 62 = .ok (.iload_n 3, 1) := by decide +kernel
theorem dX12_isRest_63 : decode cX12_isRest 63 = .ok (.ifCond .eq 25, 3) := by decide +kernel
theorem dX12_isRest_66 : decode cX12_isRest 66 = .ok (.aload_n 0, 1) := by decide +kernel
theorem dX12_isRest_67 : decode cX12_isRest 67 = .ok (.iload_n 1, 1) := by decide +kernel
theorem dX12_isRest_68 : decode cX12_isRest 68 = .ok (.iload 4, 2) := by decide +kernel
theorem dX12_isRest_70 : decode cX12_isRest 70 = .ok (.iconst 1, 1) := by decide +kernel
theorem dX12_isRest_71 : decode cX12_isRest 71 = .ok (.invokevirtual 407, 3) := by decide +kernel
theorem dX12_isRest_74 : decode cX12_isRest 74 = .ok (.aload_n 0, 1) := by decide +kernel
theorem dX12_isRest_75 : decode cX12_isRest 75 = .ok (.iload_n 1, 1) := by decide +kernel
theorem dX12_isRest_76 : decode cX12_isRest 76 = .ok (.iload_n 2, 1) := by decide +kernel
theorem dX12_isRest_77 : decode cX12_isRest 77 = .ok (.iconst 1, 1) := by decide +kernel
theorem dX12_isRest_78 : decode cX12_isRest 78 = .ok (.invokevirtual 407, 3) := by decide +kernel
theorem dX12_isRest_81 : decode cX12_isRest 81 = .ok (.if_icmp .gt 7, 3) := by decide +kernel
theorem dX12_isRest_84 : decode cX12_isRest 84 = .ok (.iconst 1, 1) := by decide +kernel
theorem dX12_isRest_85 : decode cX12_isRest 85 = .ok (.goto 4, 3) := by decide +kernel
theorem dX12_isRest_88 : decode cX12_isRest 88 = .ok (.iconst 0, 1) := by decide +kernel
theorem dX12_isRest_89 : decode cX12_isRest 89 = .ok (.istore_n 3, 1) := by decide +kernel
theorem dX12_isRest_90 : decode cX12_isRest 90 = .ok (.iinc 4 1, 3) := by decide +kernel
theorem dX12_isRest_93 : decode cX12_isRest 93 = .ok (.goto (-41), 3) := by decide +kernel
theorem dX12_isRest_96 : decode cX12_isRest 96 = .ok (.iload_n 3, 1) := by decide +kernel
theorem dX12_isRest_97 : decode cX12_isRest 97 = .ok (.ireturn, 1) := by decide +kernel
set_option maxRecDepth 20000 in
theorem ggX12_rests_X12_manyOf : GoodIn wsX12_rests wsX12_manyOf := goodIn_r _ [6, 1, 7, 8, 9, 5, 10, 11, 82, 83, 84, 85, 86, 87, 88, 89, 90, 91, 92, 93, 94, 95, 96, 97, 98, 99, 100, 101, 102, 103, 104, 105, 106, 107, 108, 109, 110, 111, 112, 113, 114, 115, 116, 117, 118, 119, 120, 121, 122, 123, 124, 125, 126, 127] (by decide +kernel) (by decide +kernel)
set_option maxRecDepth 20000 in
theorem gX12_rests_X12_manyOf : GoodIn wsX12_rests (wsV RX12 410 RX12 yX12_manyOf wsX12_manyOf) := goodIn_app (goodIn_of _ (by decide +kernel)) ggX12_rests_X12_manyOf
set_option maxRecDepth 20000 in
theorem ggX12_rests_X12_isRest : GoodIn wsX12_rests wsX12_isRest := goodIn_r _ [15, 2, 3, 4, 5, 6, 1, 7, 8, 9, 10, 11, 16, 17, 18, 19, 20, 21, 22, 23, 24, 25, 26, 27, 28, 29, 30, 31, 32, 33, 34, 35, 36, 37, 38, 39, 40, 41, 42, 43, 44, 45, 46, 47, 48, 49, 50, 51, 52, 53, 54, 55, 56, 57, 58, 59, 60, 61, 62, 63, 64, 65, 66, 67, 68, 69, 70, 71, 72, 73, 74, 75, 76, 77, 78, 79, 80, 81, 82, 83, 84, 85, 86, 87, 88, 89, 90, 91, 92, 93, 94, 95, 96, 97, 98, 99, 100, 101, 102, 103, 104, 105, 106, 107, 108, 109, 110, 111, 112, 113, 114, 115, 116, 117, 118, 119, 120, 121, 122, 123, 124, 125, 126, 127] (by decide +kernel) (by decide +kernel)
set_option maxRecDepth 20000 in
theorem gX12_rests_X12_isRest : GoodIn wsX12_rests (wsV RX12 416 RX12 yX12_isRest wsX12_isRest) := goodIn_app (goodIn_of _ (by decide +kernel)) ggX12_rests_X12_isRest
theorem dX12_rests_0 : decode cX12_rests 0 = .ok (.aload_n 0, 1) := by decide +kernel
theorem dX12_rests_1 : decode cX12_rests 1 = .ok (.getfield 252, 3) := by decide +kernel
theorem dX12_rests_4 : decode cX12_rests 4 = .ok (.ifCond .eq 8, 3) := by decide +kernel
theorem dX12_rests_7 : decode cX12_rests 7 = .ok (.iload_n 1, 1) := by decide +kernel
theorem dX12_rests_8 : decode cX12_rests 8 = .ok (.iconst (-1), 1) := by decide +kernel
theorem dX12_rests_9 : decode cX12_rests 9 = .ok (.if_icmp .ge 5, 3) := by decide +kernel
theorem dX12_rests_12 : decode cX12_rests 12 = .ok (.iconst (-1), 1) := by decide +kernel
theorem dX12_rests_13 : decode cX12_rests 13 = .ok (.ireturn, 1) := by decide +kernel
theorem dX12_rests_14 : decode cX12_rests 14 = .ok (.iconst 0, 1) := by decide +kernel
theorem dX12_rests_15 : decode cX12_rests 15 = .ok (.istore_n 2, 1) := by decide +kernel
theorem dX12_rests_16 : decode cX12_rests 16 = .ok (.iconst 0, 1) := by decide +kernel
theorem dX12_rests_17 : decode cX12_rests 17 = .ok (.istore_n 3, 1) := by decide +kernel
theorem dX12_rests_18 : decode cX12_rests 18 = .ok (.iload_n 3, 1) := by decide +kernel
theorem dX12_rests_19 : decode cX12_rests 19 = .ok (.aload_n 0, 1) := by decide +kernel
theorem dX12_rests_20 : decode cX12_rests 20 = .ok (.iconst 0, 1) := by decide +kernel
theorem dX12_rests_21 : decode cX12_rests 21 = .ok (.invokevirtual 410, 3) := by decide +kernel
theorem dX12_rests_24 : decode cX12_rests 24 = .ok (.if_icmp .ge 54, 3) := by decide +kernel
theorem dX12_rests_27 : decode cX12_rests 27 = .ok (.iconst 0, 1) := by decide +kernel
theorem dX12_rests_28 : decode cX12_rests 28 = .ok (.istore 4, 2) := by decide +kernel
theorem dX12_rests_30 : decode cX12_rests 30 = .ok (.iload 4, 2) := by decide +kernel
theorem dX12_rests_32 : decode cX12_rests 32 = .ok (.aload_n 0, 1) := by decide +kernel
theorem dX12_rests_33 : decode cX12_rests 33 = .ok (.iconst 1, 1) := by decide +kernel
theorem dX12_rests_34 : decode cX12_rests 34 = .ok (.invokevirtual 410, 3) := by decide +kernel
theorem dX12_rests_37 : decode cX12_rests 37 = .ok (.if_icmp .ge 35, 3) := by decide +kernel
theorem dX12_rests_40 : decode cX12_rests 40 = .ok (.aload_n 0, 1) := by decide +kernel
theorem dX12_rests_41 : decode cX12_rests 41 = .ok (.iload_n 3, 1) := by decide +kernel
theorem dX12_rests_42 : decode cX12_rests 42 = .ok (.iload 4, 2) := by decide +kernel
theorem dX12_rests_44 : decode cX12_rests 44 = .ok (.invokevirtual 416, 3) := by decide +kernel
theorem dX12_rests_47 : decode cX12_rests 47 = .ok (.ifCond .eq 19, 3) := by decide +kernel
theorem dX12_rests_50 : decode cX12_rests 50 = .ok (.iload_n 2, 1) := by decide +kernel
theorem dX12_rests_51 : decode cX12_rests 51 = .ok (.iload_n 1, 1) := by decide +kernel
theorem dX12_rests_52 : decode cX12_rests 52 = .ok (.if_icmp .ne 11, 3) := by decide +kernel
theorem dX12_rests_55 : decode cX12_rests 55 = .ok (.bipush 10, 2) := by decide +kernel
theorem dX12_rests_57 : decode cX12_rests 57 = .ok (.iload_n 3, 1) := by decide +kernel
theorem dX12_rests_58 : decode cX12_rests 58 = .ok (.imul, 1) := by decide +kernel
theorem dX12_rests_59 : decode cX12_rests 59 = .ok (.iload 4, 2) := by decide +kernel
theorem dX12_rests_61 : decode cX12_rests 61 = .ok (.iadd, 1) := by decide +kernel
theorem dX12_rests_62 : decode cX12_rests 62 = .ok (.ireturn, 1) := by decide +kernel
theorem dX12_rests_63 : decode cX12_rests 63 = .ok (.iinc 2 1, 3) := by decide +kernel
theorem dX12_rests_66 : decode cX12_rests 66 = .ok (.iinc 4 1, 3) := by decide +kernel
theorem dX12_rests_69 : decode cX12_rests 69 = .ok (.goto (-39), 3) := by decide +kernel
theorem dX12_rests_72 : decode cX12_rests 72 = .ok (.iinc 3 1, 3) := by decide +kernel
theorem dX12_rests_75 : decode cX12_rests 75 = .ok (.goto (-57), 3) := by decide +kernel
theorem dX12_rests_78 : decode cX12_rests 78 = .ok (.iload_n 1, 1) := by decide +kernel
theorem dX12_rests_79 : decode cX12_rests 79 = .ok (.iconst (-1), 1) := by decide +kernel
theorem dX12_rests_80 : decode cX12_rests 80 = .ok (.if_icmp .ne 7, 3) := by decide +kernel
theorem dX12_rests_83 : decode cX12_rests 83 = .ok (.iload_n 2, 1) := by decide +kernel
theorem dX12_rests_84 : decode cX12_rests 84 = .ok (.goto 4, 3) := by decide +kernel
theorem dX12_rests_87 : decode cX12_rests 87 = .ok (.iconst (-1), 1) := by decide +kernel
theorem dX12_rests_88 : decode cX12_rests 88 = .ok (.ireturn, 1) := by decide +kernel
set_option maxRecDepth 20000 in
theorem ggX12_oddsFrom_X12_riseFrom : GoodIn wsX12_oddsFrom wsX12_riseFrom := goodIn_r _ [7, 2, 8, 9, 10, 6, 11, 12, 13, 14, 15, 16, 17, 18, 19, 20, 21, 22, 23, 24, 25, 26, 27, 28, 29, 30, 31, 32, 33, 34, 35, 36, 37, 38, 39, 40, 41, 42, 43, 44, 45, 46, 47, 48, 49, 50, 51, 52, 53, 54, 55, 56, 57, 58, 65, 66, 67, 68, 69, 70, 71, 72, 73, 74, 75, 76, 77, 78, 79, 80, 81, 82, 83, 84, 85, 86, 87, 88, 89, 90, 91, 92, 93, 94, 95, 96, 97, 98, 99, 100, 101, 102, 103, 104, 105, 106, 107, 108, 109, 110] (by decide +kernel) (by decide +kernel)
set_option maxRecDepth 20000 in
theorem gX12_oddsFrom_X12_riseFrom : GoodIn wsX12_oddsFrom (wsV RX12 297 RX12 yX12_riseFrom wsX12_riseFrom) := goodIn_app (goodIn_of _ (by decide +kernel)) ggX12_oddsFrom_X12_riseFrom
set_option maxRecDepth 20000 in
theorem ggX12_oddsFrom_X12_held : GoodIn wsX12_oddsFrom wsX12_held := goodIn_r _ [61, 23, 24, 25, 26, 27, 28, 29] (by decide +kernel) (by decide +kernel)
set_option maxRecDepth 20000 in
theorem gX12_oddsFrom_X12_held : GoodIn wsX12_oddsFrom (va_wsS RX12 307 yX12_held wsX12_held) := goodIn_app (goodIn_of _ (by decide +kernel)) ggX12_oddsFrom_X12_held
set_option maxRecDepth 20000 in
theorem ggX12_oddsFrom_X12_oddsFrom : GoodIn wsX12_oddsFrom wsX12_oddsFrom := goodIn_r _ [0, 1, 2, 3, 4, 5, 6, 7, 8, 9, 10, 11, 12, 13, 14, 15, 16, 17, 18, 19, 20, 21, 22, 23, 24, 25, 26, 27, 28, 29, 30, 31, 32, 33, 34, 35, 36, 37, 38, 39, 40, 41, 42, 43, 44, 45, 46, 47, 48, 49, 50, 51, 52, 53, 54, 55, 56, 57, 58, 59, 60, 61, 62, 63, 64, 65, 66, 67, 68, 69, 70, 71, 72, 73, 74, 75, 76, 77, 78, 79, 80, 81, 82, 83, 84, 85, 86, 87, 88, 89, 90, 91, 92, 93, 94, 95, 96, 97, 98, 99, 100, 101, 102, 103, 104, 105, 106, 107, 108, 109, 110] (by decide +kernel) (by decide +kernel)
set_option maxRecDepth 20000 in
theorem gX12_oddsFrom_X12_oddsFrom : GoodIn wsX12_oddsFrom (wsV RX12 421 RX12 yX12_oddsFrom wsX12_oddsFrom) := goodIn_app (goodIn_of _ (by decide +kernel)) ggX12_oddsFrom_X12_oddsFrom
theorem dX12_oddsFrom_0 : decode cX12_oddsFrom 0 = .ok (.iload 5, 2) := by decide +kernel
theorem dX12_oddsFrom_2 : decode cX12_oddsFrom 2 = .ok (.ifCond .ne 5, 3) := by decide +kernel
theorem dX12_oddsFrom_5 : decode cX12_oddsFrom 5 = .ok (.iconst 0, 1) := by decide +kernel
theorem dX12_oddsFrom_6 : decode cX12_oddsFrom 6 = .ok (.ireturn, 1) := by decide +kernel
theorem dX12_oddsFrom_7 : decode cX12_oddsFrom 7 = .ok (.iload 8, 2) := by decide +kernel
theorem dX12_oddsFrom_9 : decode cX12_oddsFrom 9 = .ok (.i2l, 1) := by decide +kernel
theorem dX12_oddsFrom_10 : decode cX12_oddsFrom 10 = .ok (.iload 7, 2) := by decide +kernel
theorem dX12_oddsFrom_12 : decode cX12_oddsFrom 12 = .ok (.i2l, 1) := by decide +kernel
theorem dX12_oddsFrom_13 : decode cX12_oddsFrom 13 = .ok (.lmul, 1) := by decide +kernel
theorem dX12_oddsFrom_14 : decode cX12_oddsFrom 14 = .ok (.ldc2_w 419, 3) := by decide +kernel
theorem dX12_oddsFrom_17 : decode cX12_oddsFrom 17 = .ok (.ldiv, 1) := by decide +kernel
theorem dX12_oddsFrom_18 : decode cX12_oddsFrom 18 = .ok (.l2i, 1) := by decide +kernel
theorem dX12_oddsFrom_19 : decode cX12_oddsFrom 19 = .ok (.istore 9, 2) := by decide +kernel
theorem dX12_oddsFrom_21 : decode cX12_oddsFrom 21 = .ok (.iconst 0, 1) := by decide +kernel
theorem dX12_oddsFrom_22 : decode cX12_oddsFrom 22 = .ok (.istore 10, 2) := by decide +kernel
theorem dX12_oddsFrom_24 : decode cX12_oddsFrom 24 = .ok (.iconst 0, 1) := by decide +kernel
theorem dX12_oddsFrom_25 : decode cX12_oddsFrom 25 = .ok (.istore 11, 2) := by decide +kernel
theorem dX12_oddsFrom_27 : decode cX12_oddsFrom 27 = .ok (.iload 11, 2) := by decide +kernel
theorem dX12_oddsFrom_29 : decode cX12_oddsFrom 29 = .ok (.iconst 2, 1) := by decide +kernel
theorem dX12_oddsFrom_30 : decode cX12_oddsFrom 30 = .ok (.if_icmp .ge 103, 3) := by decide +kernel
theorem dX12_oddsFrom_33 : decode cX12_oddsFrom 33 = .ok (.iload 11, 2) := by decide +kernel
theorem dX12_oddsFrom_35 : decode cX12_oddsFrom 35 = .ok (.iconst 1, 1) := by decide +kernel
theorem dX12_oddsFrom_36 : decode cX12_oddsFrom 36 = .ok (.if_icmp .ne 10, 3) := by decide +kernel
theorem dX12_oddsFrom_39 : decode cX12_oddsFrom 39 = .ok (.iload 6, 2) := by decide +kernel
theorem dX12_oddsFrom_41 : decode cX12_oddsFrom 41 = .ok (.iconst 2, 1) := by decide +kernel
theorem dX12_oddsFrom_42 : decode cX12_oddsFrom 42 = .ok (.idiv, 1) := by decide +kernel
theorem dX12_oddsFrom_43 : decode cX12_oddsFrom 43 = .ok (.goto 27, 3) := by decide +kernel
theorem dX12_oddsFrom_46 : decode cX12_oddsFrom 46 = .ok (.iload 6, 2) := by decide +kernel
theorem dX12_oddsFrom_48 : decode cX12_oddsFrom 48 = .ok (.aload_n 0, 1) := by decide +kernel
theorem dX12_oddsFrom_49 : decode cX12_oddsFrom 49 = .ok (.iload_n 1, 1) := by decide +kernel
theorem dX12_oddsFrom_50 : decode cX12_oddsFrom 50 = .ok (.iload_n 2, 1) := by decide +kernel
theorem dX12_oddsFrom_51 : decode cX12_oddsFrom 51 = .ok (.iload 6, 2) := by decide +kernel
theorem dX12_oddsFrom_53 : decode cX12_oddsFrom 53 = .ok (.aload_n 0, 1) := by decide +kernel
theorem dX12_oddsFrom_54 : decode cX12_oddsFrom 54 = .ok (.getfield 58, 3) := by decide +kernel
theorem dX12_oddsFrom_57 : decode cX12_oddsFrom 57 = .ok (.bipush 68, 2) := by decide +kernel
theorem dX12_oddsFrom_59 : decode cX12_oddsFrom 59 = .ok (.iaload, 1) := by decide +kernel
theorem dX12_oddsFrom_60 : decode cX12_oddsFrom 60 = .ok (.iload 4, 2) := by decide +kernel
theorem dX12_oddsFrom_62 : decode cX12_oddsFrom 62 = .ok (.iadd, 1) := by decide +kernel
theorem dX12_oddsFrom_63 : decode cX12_oddsFrom 63 = .ok (.invokevirtual 297, 3) := by decide +kernel
theorem dX12_oddsFrom_66 : decode cX12_oddsFrom 66 = .ok (.iadd, 1) := by decide +kernel
theorem dX12_oddsFrom_67 : decode cX12_oddsFrom 67 = .ok (.invokestatic 307, 3) := by decide +kernel
theorem dX12_oddsFrom_70 : decode cX12_oddsFrom 70 = .ok (.istore 12, 2) := by decide +kernel
theorem dX12_oddsFrom_72 : decode cX12_oddsFrom 72 = .ok (.iload 11, 2) := by decide +kernel
theorem dX12_oddsFrom_74 : decode cX12_oddsFrom 74 = .ok (.iconst 1, 1) := by decide +kernel
theorem dX12_oddsFrom_75 : decode cX12_oddsFrom 75 = .ok (.if_icmp .ne 8, 3) := by decide +kernel
theorem dX12_oddsFrom_78 : decode cX12_oddsFrom 78 = .ok (.iload 9, 2) := by decide +kernel
theorem dX12_oddsFrom_80 : decode cX12_oddsFrom 80 = .ok (.goto 8, 3) := by decide +kernel
theorem dX12_oddsFrom_83 : decode cX12_oddsFrom 83 = .ok (.iload 8, 2) := by decide +kernel
theorem dX12_oddsFrom_85 : decode cX12_oddsFrom 85 = .ok (.iload 9, 2) := by decide +kernel
theorem dX12_oddsFrom_87 : decode cX12_oddsFrom 87 = .ok (.isub, 1) := by decide +kernel
theorem dX12_oddsFrom_88 : decode cX12_oddsFrom 88 = .ok (.istore 13, 2) := by decide +kernel
theorem dX12_oddsFrom_90 : decode cX12_oddsFrom 90 = .ok (.iload 10, 2) := by decide +kernel
theorem dX12_oddsFrom_92 : decode cX12_oddsFrom 92 = .ok (.iload 12, 2) := by decide +kernel
theorem dX12_oddsFrom_94 : decode cX12_oddsFrom 94 = .ok (.iload_n 3, 1) := by decide +kernel
theorem dX12_oddsFrom_95 : decode cX12_oddsFrom 95 = .ok (.if_icmp .lt 8, 3) := by decide +kernel
theorem dX12_oddsFrom_98 : decode cX12_oddsFrom 98 = .ok (.iload 13, 2) := by decide +kernel
theorem dX12_oddsFrom_100 : decode cX12_oddsFrom 100 = .ok (.goto 24, 3) := by decide +kernel
theorem dX12_oddsFrom_103 : decode cX12_oddsFrom 103 = .ok (.aload_n 0, 1) := by decide +kernel
theorem dX12_oddsFrom_104 : decode cX12_oddsFrom 104 = .ok (.iload_n 1, 1) := by decide +kernel
theorem dX12_oddsFrom_105 : decode cX12_oddsFrom 105 = .ok (.iload_n 2, 1) := by decide +kernel
theorem dX12_oddsFrom_106 : decode cX12_oddsFrom 106 = .ok (.iload_n 3, 1) := by decide +kernel
theorem dX12_oddsFrom_107 : decode cX12_oddsFrom 107 = .ok (.iload 4, 2) := by decide +kernel
theorem dX12_oddsFrom_109 : decode cX12_oddsFrom 109 = .ok (.iconst 1, 1) := by decide +kernel
theorem dX12_oddsFrom_110 : decode cX12_oddsFrom 110 = .ok (.iadd, 1) := by decide +kernel
theorem dX12_oddsFrom_111 : decode cX12_oddsFrom 111 = .ok (.iload 5, 2) := by decide +kernel
theorem dX12_oddsFrom_113 : decode cX12_oddsFrom 113 = .ok (.iconst 1, 1) := by decide +kernel
theorem dX12_oddsFrom_114 : decode cX12_oddsFrom 114 = .ok (.isub, 1) := by decide +kernel
theorem dX12_oddsFrom_115 : decode cX12_oddsFrom 115 = .ok (.iload 12, 2) := by decide +kernel
theorem dX12_oddsFrom_117 : decode cX12_oddsFrom 117 = .ok (.iload 7, 2) := by decide +kernel
theorem dX12_oddsFrom_119 : decode cX12_oddsFrom 119 = .ok (.iload 13, 2) := by decide +kernel
theorem dX12_oddsFrom_121 : decode cX12_oddsFrom 121 = .ok (.invokevirtual 421, 3) := by decide +kernel
theorem dX12_oddsFrom_124 : decode cX12_oddsFrom 124 = .ok (.iadd, 1) := by decide +kernel
theorem dX12_oddsFrom_125 : decode cX12_oddsFrom 125 = .ok (.istore 10, 2) := by decide +kernel
theorem dX12_oddsFrom_127 : decode cX12_oddsFrom 127 = .ok (.iinc 11 1, 3) := by decide +kernel
theorem dX12_oddsFrom_130 : decode cX12_oddsFrom 130 = .ok (.goto (-103), 3) := by decide +kernel
theorem dX12_oddsFrom_133 : decode cX12_oddsFrom 133 = .ok (.iload 10, 2) := by decide +kernel
theorem dX12_oddsFrom_135 : decode cX12_oddsFrom 135 = .ok (.ireturn, 1) := by decide +kernel
set_option maxRecDepth 20000 in
theorem ggX12_odds_X12_isMatter : GoodIn wsX12_odds wsX12_isMatter := goodIn_r _ [8, 9, 10, 11, 7, 12, 88, 89, 90, 91, 92, 93, 94, 95, 96, 97, 98, 99, 100, 101, 102, 103, 104, 105, 106, 107, 108, 109, 110, 111, 112, 113, 114, 115, 116, 117, 118, 119, 120, 121, 122, 123, 124, 125, 126, 127, 128, 129, 130, 131, 132, 133] (by decide +kernel) (by decide +kernel)
set_option maxRecDepth 20000 in
theorem gX12_odds_X12_isMatter : GoodIn wsX12_odds (wsV RX12 331 RX12 yX12_isMatter wsX12_isMatter) := goodIn_app (goodIn_of _ (by decide +kernel)) ggX12_odds_X12_isMatter
set_option maxRecDepth 20000 in
theorem ggX12_odds_X12_areTwo : GoodIn wsX12_odds wsX12_areTwo := goodIn_r _ [16, 17, 18, 19, 7, 20, 21, 10, 11, 12, 22, 23, 24, 25, 26, 88, 89, 90, 91, 92, 93, 94, 95, 96, 97, 98, 99, 100, 101, 102, 103, 104, 105, 106, 107, 108, 109, 110, 111, 112, 113, 114, 115, 116, 117, 118, 119, 120, 121, 122, 123, 124, 125, 126, 127, 128, 129, 130, 131, 132, 133] (by decide +kernel) (by decide +kernel)
set_option maxRecDepth 20000 in
theorem gX12_odds_X12_areTwo : GoodIn wsX12_odds (wsV RX12 316 RX12 yX12_areTwo wsX12_areTwo) := goodIn_app (goodIn_of _ (by decide +kernel)) ggX12_odds_X12_areTwo
set_option maxRecDepth 20000 in
theorem ggX12_odds_X12_in : GoodIn wsX12_odds wsX12_in := goodIn_r _ [12] (by decide +kernel) (by decide +kernel)
set_option maxRecDepth 20000 in
theorem gX12_odds_X12_in : GoodIn wsX12_odds (va_wsS RX12 211 yX12_in wsX12_in) := goodIn_app (goodIn_of _ (by decide +kernel)) ggX12_odds_X12_in
set_option maxRecDepth 20000 in
theorem ggX12_odds_X12_pairAt : GoodIn wsX12_odds wsX12_pairAt := goodIn_r _ [29, 30, 31, 32, 33, 34, 35, 36] (by decide +kernel) (by decide +kernel)
set_option maxRecDepth 20000 in
theorem gX12_odds_X12_pairAt : GoodIn wsX12_odds (va_wsS RX12 294 yX12_pairAt wsX12_pairAt) := goodIn_app (goodIn_of _ (by decide +kernel)) ggX12_odds_X12_pairAt
set_option maxRecDepth 20000 in
theorem ggX12_odds_X12_oddsFrom : GoodIn wsX12_odds wsX12_oddsFrom := goodIn_r _ [40, 41, 2, 42, 43, 44, 7, 45, 46, 47, 48, 49, 22, 23, 24, 25, 26, 50, 51, 52, 53, 54, 55, 30, 31, 32, 33, 34, 35, 36, 56, 57, 58, 59, 60, 61, 62, 63, 64, 65, 66, 67, 68, 69, 70, 71, 72, 73, 74, 75, 76, 77, 78, 79, 80, 81, 82, 83, 84, 85, 86, 87, 37, 38, 39, 88, 89, 90, 91, 92, 93, 94, 95, 96, 97, 98, 99, 100, 101, 102, 103, 104, 105, 106, 107, 108, 109, 110, 111, 112, 113, 114, 115, 116, 117, 118, 119, 120, 121, 122, 123, 124, 125, 126, 127, 128, 129, 130, 131, 132, 133] (by decide +kernel) (by decide +kernel)
set_option maxRecDepth 20000 in
theorem gX12_odds_X12_oddsFrom : GoodIn wsX12_odds (wsV RX12 421 RX12 yX12_oddsFrom wsX12_oddsFrom) := goodIn_app (goodIn_of _ (by decide +kernel)) ggX12_odds_X12_oddsFrom
theorem dX12_odds_0 : decode cX12_odds 0 = .ok (.aload_n 0, 1) := by decide +kernel
theorem dX12_odds_1 : decode cX12_odds 1 = .ok (.iload_n 1, 1) := by decide +kernel
theorem dX12_odds_2 : decode cX12_odds 2 = .ok (.invokevirtual 331, 3) := by decide +kernel
theorem dX12_odds_5 : decode cX12_odds 5 = .ok (.ifCond .eq 34, 3) := by decide +kernel
theorem dX12_odds_8 : decode cX12_odds 8 = .ok (.aload_n 0, 1) := by decide +kernel
theorem dX12_odds_9 : decode cX12_odds 9 = .ok (.iload_n 2, 1) := by decide +kernel
theorem dX12_odds_10 : decode cX12_odds 10 = .ok (.iload_n 3, 1) := by decide +kernel
theorem dX12_odds_11 : decode cX12_odds 11 = .ok (.invokevirtual 316, 3) := by decide +kernel
theorem dX12_odds_14 : decode cX12_odds 14 = .ok (.ifCond .eq 25, 3) := by decide +kernel
theorem dX12_odds_17 : decode cX12_odds 17 = .ok (.iload 4, 2) := by decide +kernel
theorem dX12_odds_19 : decode cX12_odds 19 = .ok (.iconst 0, 1) := by decide +kernel
theorem dX12_odds_20 : decode cX12_odds 20 = .ok (.bipush 8, 2) := by decide +kernel
theorem dX12_odds_22 : decode cX12_odds 22 = .ok (.invokestatic 211, 3) := by decide +kernel
theorem dX12_odds_25 : decode cX12_odds 25 = .ok (.ifCond .eq 14, 3) := by decide +kernel
theorem dX12_odds_28 : decode cX12_odds 28 = .ok (.iload 5, 2) := by decide +kernel
theorem dX12_odds_30 : decode cX12_odds 30 = .ok (.iconst 0, 1) := by decide +kernel
theorem dX12_odds_31 : decode cX12_odds 31 = .ok (.bipush 100, 2) := by decide +kernel
theorem dX12_odds_33 : decode cX12_odds 33 = .ok (.invokestatic 211, 3) := by decide +kernel
theorem dX12_odds_36 : decode cX12_odds 36 = .ok (.ifCond .ne 5, 3) := by decide +kernel
theorem dX12_odds_39 : decode cX12_odds 39 = .ok (.iconst (-1), 1) := by decide +kernel
theorem dX12_odds_40 : decode cX12_odds 40 = .ok (.ireturn, 1) := by decide +kernel
theorem dX12_odds_41 : decode cX12_odds 41 = .ok (.aload_n 0, 1) := by decide +kernel
theorem dX12_odds_42 : decode cX12_odds 42 = .ok (.iload_n 2, 1) := by decide +kernel
theorem dX12_odds_43 : decode cX12_odds 43 = .ok (.iload_n 3, 1) := by decide +kernel
theorem dX12_odds_44 : decode cX12_odds 44 = .ok (.aload_n 0, 1) := by decide +kernel
theorem dX12_odds_45 : decode cX12_odds 45 = .ok (.getfield 55, 3) := by decide +kernel
theorem dX12_odds_48 : decode cX12_odds 48 = .ok (.iconst 2, 1) := by decide +kernel
theorem dX12_odds_49 : decode cX12_odds 49 = .ok (.iload_n 1, 1) := by decide +kernel
theorem dX12_odds_50 : decode cX12_odds 50 = .ok (.imul, 1) := by decide +kernel
theorem dX12_odds_51 : decode cX12_odds 51 = .ok (.iconst 1, 1) := by decide +kernel
theorem dX12_odds_52 : decode cX12_odds 52 = .ok (.iadd, 1) := by decide +kernel
theorem dX12_odds_53 : decode cX12_odds 53 = .ok (.iaload, 1) := by decide +kernel
theorem dX12_odds_54 : decode cX12_odds 54 = .ok (.iconst 0, 1) := by decide +kernel
theorem dX12_odds_55 : decode cX12_odds 55 = .ok (.iload 4, 2) := by decide +kernel
theorem dX12_odds_57 : decode cX12_odds 57 = .ok (.aload_n 0, 1) := by decide +kernel
theorem dX12_odds_58 : decode cX12_odds 58 = .ok (.getfield 58, 3) := by decide +kernel
theorem dX12_odds_61 : decode cX12_odds 61 = .ok (.iload_n 2, 1) := by decide +kernel
theorem dX12_odds_62 : decode cX12_odds 62 = .ok (.iload_n 3, 1) := by decide +kernel
theorem dX12_odds_63 : decode cX12_odds 63 = .ok (.invokestatic 294, 3) := by decide +kernel
theorem dX12_odds_66 : decode cX12_odds 66 = .ok (.iaload, 1) := by decide +kernel
theorem dX12_odds_67 : decode cX12_odds 67 = .ok (.iload 5, 2) := by decide +kernel
theorem dX12_odds_69 : decode cX12_odds 69 = .ok (.ldc_w 425, 3) := by decide +kernel
theorem dX12_odds_72 : decode cX12_odds 72 = .ok (.invokevirtual 421, 3) := by decide +kernel
theorem dX12_odds_75 : decode cX12_odds 75 = .ok (.ireturn, 1) := by decide +kernel
set_option maxRecDepth 20000 in
theorem ggX12_shares_X12_in : GoodIn wsX12_shares wsX12_in := goodIn_r _ [6] (by decide +kernel) (by decide +kernel)
set_option maxRecDepth 20000 in
theorem gX12_shares_X12_in : GoodIn wsX12_shares (va_wsS RX12 211 yX12_in wsX12_in) := goodIn_app (goodIn_of _ (by decide +kernel)) ggX12_shares_X12_in
set_option maxRecDepth 20000 in
theorem ggX12_shares_X12_of : GoodIn wsX12_shares wsX12_of := goodIn_r _ [10, 11, 12, 13, 14, 15, 16, 17, 18, 19, 20, 21, 22, 23, 24, 25, 26, 27, 28, 29, 30, 31, 32, 33, 34, 35, 36, 37, 38, 39, 40, 41, 42, 43, 44, 45, 46, 47, 48, 49, 50, 51, 52, 53, 54, 55, 56, 57] (by decide +kernel) (by decide +kernel)
set_option maxRecDepth 20000 in
theorem gX12_shares_X12_of : GoodIn wsX12_shares (wsV RX12 258 RX12 yX12_of wsX12_of) := goodIn_app (goodIn_of _ (by decide +kernel)) ggX12_shares_X12_of
theorem dX12_shares_0 : decode cX12_shares 0 = .ok (.aload_n 0, 1) := by decide +kernel
theorem dX12_shares_1 : decode cX12_shares 1 = .ok (.getfield 252, 3) := by decide +kernel
theorem dX12_shares_4 : decode cX12_shares 4 = .ok (.ifCond .eq 23, 3) := by decide +kernel
theorem dX12_shares_7 : decode cX12_shares 7 = .ok (.iload_n 1, 1) := by decide +kernel
theorem dX12_shares_8 : decode cX12_shares 8 = .ok (.iconst 0, 1) := by decide +kernel
theorem dX12_shares_9 : decode cX12_shares 9 = .ok (.iconst 1, 1) := by decide +kernel
theorem dX12_shares_10 : decode cX12_shares 10 = .ok (.invokestatic 211, 3) := by decide +kernel
theorem dX12_shares_13 : decode cX12_shares 13 = .ok (.ifCond .eq 14, 3) := by decide +kernel
theorem dX12_shares_16 : decode cX12_shares 16 = .ok (.iload_n 2, 1) := by decide +kernel
theorem dX12_shares_17 : decode cX12_shares 17 = .ok (.iconst 0, 1) := by decide +kernel
theorem dX12_shares_18 : decode cX12_shares 18 = .ok (.sipush 999, 3) := by decide +kernel
theorem dX12_shares_21 : decode cX12_shares 21 = .ok (.invokestatic 211, 3) := by decide +kernel
theorem dX12_shares_24 : decode cX12_shares 24 = .ok (.ifCond .ne 5, 3) := by decide +kernel
theorem dX12_shares_27 : decode cX12_shares 27 = .ok (.iconst (-1), 1) := by decide +kernel
theorem dX12_shares_28 : decode cX12_shares 28 = .ok (.ireturn, 1) := by decide +kernel
theorem dX12_shares_29 : decode cX12_shares 29 = .ok (.iconst 0, 1) := by decide +kernel
theorem dX12_shares_30 : decode cX12_shares 30 = .ok (.istore_n 3, 1) := by decide +kernel
theorem dX12_shares_31 : decode cX12_shares 31 = .ok (.iconst 0, 1) := by decide +kernel
theorem dX12_shares_32 : decode cX12_shares 32 = .ok (.istore 4, 2) := by decide +kernel
theorem dX12_shares_34 : decode cX12_shares 34 = .ok (.iconst 0, 1) := by decide +kernel
theorem dX12_shares_35 : decode cX12_shares 35 = .ok (.istore 5, 2) := by decide +kernel
theorem dX12_shares_37 : decode cX12_shares 37 = .ok (.iload 5, 2) := by decide +kernel
theorem dX12_shares_39 : decode cX12_shares 39 = .ok (.aload_n 0, 1) := by decide +kernel
theorem dX12_shares_40 : decode cX12_shares 40 = .ok (.getfield 252, 3) := by decide +kernel
theorem dX12_shares_43 : decode cX12_shares 43 = .ok (.if_icmp .ge 52, 3) := by decide +kernel
theorem dX12_shares_46 : decode cX12_shares 46 = .ok (.iload_n 3, 1) := by decide +kernel
theorem dX12_shares_47 : decode cX12_shares 47 = .ok (.aload_n 0, 1) := by decide +kernel
theorem dX12_shares_48 : decode cX12_shares 48 = .ok (.getfield 58, 3) := by decide +kernel
theorem dX12_shares_51 : decode cX12_shares 51 = .ok (.bipush 36, 2) := by decide +kernel
theorem dX12_shares_53 : decode cX12_shares 53 = .ok (.iload 5, 2) := by decide +kernel
theorem dX12_shares_55 : decode cX12_shares 55 = .ok (.iadd, 1) := by decide +kernel
theorem dX12_shares_56 : decode cX12_shares 56 = .ok (.iaload, 1) := by decide +kernel
theorem dX12_shares_57 : decode cX12_shares 57 = .ok (.iadd, 1) := by decide +kernel
theorem dX12_shares_58 : decode cX12_shares 58 = .ok (.istore_n 3, 1) := by decide +kernel
theorem dX12_shares_59 : decode cX12_shares 59 = .ok (.iload 4, 2) := by decide +kernel
theorem dX12_shares_61 : decode cX12_shares 61 = .ok (.aload_n 0, 1) := by decide +kernel
theorem dX12_shares_62 : decode cX12_shares 62 = .ok (.iload 5, 2) := by decide +kernel
theorem dX12_shares_64 : decode cX12_shares 64 = .ok (.iconst 0, 1) := by decide +kernel
theorem dX12_shares_65 : decode cX12_shares 65 = .ok (.invokevirtual 258, 3) := by decide +kernel
theorem dX12_shares_68 : decode cX12_shares 68 = .ok (.iload_n 1, 1) := by decide +kernel
theorem dX12_shares_69 : decode cX12_shares 69 = .ok (.if_icmp .ne 16, 3) := by decide +kernel
theorem dX12_shares_72 : decode cX12_shares 72 = .ok (.aload_n 0, 1) := by decide +kernel
theorem dX12_shares_73 : decode cX12_shares 73 = .ok (.getfield 58, 3) := by decide +kernel
theorem dX12_shares_76 : decode cX12_shares 76 = .ok (.bipush 36, 2) := by decide +kernel
theorem dX12_shares_78 : decode cX12_shares 78 = .ok (.iload 5, 2) := by decide +kernel
theorem dX12_shares_80 : decode cX12_shares 80 = .ok (.iadd, 1) := by decide +kernel
theorem dX12_shares_81 : decode cX12_shares 81 = .ok (.iaload, 1) := by decide +kernel
theorem dX12_shares_82 : decode cX12_shares 82 = .ok (.goto 4, 3) := by decide +kernel
theorem dX12_shares_85 : decode cX12_shares 85 = .ok (.iconst 0, 1) := by decide +kernel
theorem dX12_shares_86 : decode cX12_shares 86 = .ok (.iadd, 1) := by decide +kernel
theorem dX12_shares_87 : decode cX12_shares 87 = .ok (.istore 4, 2) := by decide +kernel
theorem dX12_shares_89 : decode cX12_shares 89 = .ok (.iinc 5 1, 3) := by decide +kernel
theorem dX12_shares_92 : decode cX12_shares 92 = .ok (.goto (-55), 3) := by decide +kernel
theorem dX12_shares_95 : decode cX12_shares 95 = .ok (.iload_n 3, 1) := by decide +kernel
theorem dX12_shares_96 : decode cX12_shares 96 = .ok (.ifCond .ne 7, 3) := by decide +kernel
theorem dX12_shares_99 : decode cX12_shares 99 = .ok (.iconst 0, 1) := by decide +kernel
theorem dX12_shares_100 : decode cX12_shares 100 = .ok (.goto 9, 3) := by decide +kernel
theorem dX12_shares_103 : decode cX12_shares 103 = .ok (.iload_n 2, 1) := by decide +kernel
theorem dX12_shares_104 : decode cX12_shares 104 = .ok (.iload 4, 2) := by decide +kernel
theorem dX12_shares_106 : decode cX12_shares 106 = .ok (.imul, 1) := by decide +kernel
theorem dX12_shares_107 : decode cX12_shares 107 = .ok (.iload_n 3, 1) := by decide +kernel
theorem dX12_shares_108 : decode cX12_shares 108 = .ok (.idiv, 1) := by decide +kernel
theorem dX12_shares_109 : decode cX12_shares 109 = .ok (.ireturn, 1) := by decide +kernel
set_option maxRecDepth 20000 in
theorem ggX12_metSet_X12_isFree : GoodIn wsX12_metSet wsX12_isFree := goodIn_r _ [6, 7, 8, 9, 10, 11, 12, 13, 14, 15, 16, 17, 18, 19, 20, 21, 22, 23, 24, 25, 26, 27, 28, 29, 30, 31, 32, 33, 34, 35, 36, 37, 38, 39, 40, 41, 42, 43, 44, 45, 46, 47, 48, 49, 50, 51, 52, 53] (by decide +kernel) (by decide +kernel)
set_option maxRecDepth 20000 in
theorem gX12_metSet_X12_isFree : GoodIn wsX12_metSet (wsV RX12 313 RX12 yX12_isFree wsX12_isFree) := goodIn_app (goodIn_of _ (by decide +kernel)) ggX12_metSet_X12_isFree
theorem dX12_metSet_0 : decode cX12_metSet 0 = .ok (.iconst 0, 1) := by decide +kernel
theorem dX12_metSet_1 : decode cX12_metSet 1 = .ok (.istore_n 1, 1) := by decide +kernel
theorem dX12_metSet_2 : decode cX12_metSet 2 = .ok (.iconst 0, 1) := by decide +kernel
theorem dX12_metSet_3 : decode cX12_metSet 3 = .ok (.istore_n 2, 1) := by decide +kernel
theorem dX12_metSet_4 : decode cX12_metSet 4 = .ok (.iload_n 2, 1) := by decide +kernel
theorem dX12_metSet_5 : decode cX12_metSet 5 = .ok (.aload_n 0, 1) := by decide +kernel
theorem dX12_metSet_6 : decode cX12_metSet 6 = .ok (.getfield 252, 3) := by decide +kernel
theorem dX12_metSet_9 : decode cX12_metSet 9 = .ok (.if_icmp .ge 27, 3) := by decide +kernel
theorem dX12_metSet_12 : decode cX12_metSet 12 = .ok (.iload_n 1, 1) := by decide +kernel
theorem dX12_metSet_13 : decode cX12_metSet 13 = .ok (.aload_n 0, 1) := by decide +kernel
theorem dX12_metSet_14 : decode cX12_metSet 14 = .ok (.iload_n 2, 1) := by decide +kernel
theorem dX12_metSet_15 : decode cX12_metSet 15 = .ok (.invokevirtual 313, 3) := by decide +kernel
theorem dX12_metSet_18 : decode cX12_metSet 18 = .ok (.ifCond .eq 7, 3) := by decide +kernel
theorem dX12_metSet_21 : decode cX12_metSet 21 = .ok (.iconst 0, 1) := by decide +kernel
theorem dX12_metSet_22 : decode cX12_metSet 22 = .ok (.goto 6, 3) := by decide +kernel
theorem dX12_metSet_25 : decode cX12_metSet 25 = .ok (.iconst 1, 1) := by decide +kernel
theorem dX12_metSet_26 : decode cX12_metSet 26 = .ok (.iload_n 2, 1) := by decide +kernel
theorem dX12_metSet_27 : decode cX12_metSet 27 = .ok (.ishl, 1) := by decide +kernel
theorem dX12_metSet_28 : decode cX12_metSet 28 = .ok (.ior, 1) := by decide +kernel
theorem dX12_metSet_29 : decode cX12_metSet 29 = .ok (.istore_n 1, 1) := by decide +kernel
theorem dX12_metSet_30 : decode cX12_metSet 30 = .ok (.iinc 2 1, 3) := by decide +kernel
theorem dX12_metSet_33 : decode cX12_metSet 33 = .ok (.goto (-29), 3) := by decide +kernel
theorem dX12_metSet_36 : decode cX12_metSet 36 = .ok (.iload_n 1, 1) := by decide +kernel
theorem dX12_metSet_37 : decode cX12_metSet 37 = .ok (.ireturn, 1) := by decide +kernel
theorem dX12_signedSet_0 : decode cX12_signedSet 0 = .ok (.iconst 0, 1) := by decide +kernel
theorem dX12_signedSet_1 : decode cX12_signedSet 1 = .ok (.istore_n 1, 1) := by decide +kernel
theorem dX12_signedSet_2 : decode cX12_signedSet 2 = .ok (.iconst 0, 1) := by decide +kernel
theorem dX12_signedSet_3 : decode cX12_signedSet 3 = .ok (.istore_n 2, 1) := by decide +kernel
theorem dX12_signedSet_4 : decode cX12_signedSet 4 = .ok (.iload_n 2, 1) := by decide +kernel
theorem dX12_signedSet_5 : decode cX12_signedSet 5 = .ok (.aload_n 0, 1) := by decide +kernel
theorem dX12_signedSet_6 : decode cX12_signedSet 6 = .ok (.getfield 255, 3) := by decide +kernel
theorem dX12_signedSet_9 : decode cX12_signedSet 9 = .ok (.if_icmp .ge 32, 3) := by decide +kernel
theorem dX12_signedSet_12 : decode cX12_signedSet 12 = .ok (.iload_n 1, 1) := by decide +kernel
theorem dX12_signedSet_13 : decode cX12_signedSet 13 = .ok (.aload_n 0, 1) := by decide +kernel
theorem dX12_signedSet_14 : decode cX12_signedSet 14 = .ok (.getfield 58, 3) := by decide +kernel
theorem dX12_signedSet_17 : decode cX12_signedSet 17 = .ok (.bipush 60, 2) := by decide +kernel
theorem dX12_signedSet_19 : decode cX12_signedSet 19 = .ok (.iload_n 2, 1) := by decide +kernel
theorem dX12_signedSet_20 : decode cX12_signedSet 20 = .ok (.iadd, 1) := by decide +kernel
theorem dX12_signedSet_21 : decode cX12_signedSet 21 = .ok (.iaload, 1) := by decide +kernel
theorem dX12_signedSet_22 : decode cX12_signedSet 22 = .ok (.iconst (-1), 1) := by decide +kernel
theorem dX12_signedSet_23 : decode cX12_signedSet 23 = .ok (.if_icmp .ne 7, 3) := by decide +kernel
theorem dX12_signedSet_26 : decode cX12_signedSet 26 = .ok (.iconst 0, 1) := by decide +kernel
theorem dX12_signedSet_27 : decode cX12_signedSet 27 = .ok (.goto 6, 3) := by decide +kernel
theorem dX12_signedSet_30 : decode cX12_signedSet 30 = .ok (.iconst 1, 1) := by decide +kernel
theorem dX12_signedSet_31 : decode cX12_signedSet 31 = .ok (.iload_n 2, 1) := by decide +kernel
theorem dX12_signedSet_32 : decode cX12_signedSet 32 = .ok (.ishl, 1) := by decide +kernel
theorem dX12_signedSet_33 : decode cX12_signedSet 33 = .ok (.ior, 1) := by decide +kernel
theorem dX12_signedSet_34 : decode cX12_signedSet 34 = .ok (.istore_n 1, 1) := by decide +kernel
theorem dX12_signedSet_35 : decode cX12_signedSet 35 = .ok (.iinc 2 1, 3) := by decide +kernel
theorem dX12_signedSet_38 : decode cX12_signedSet 38 = .ok (.goto (-34), 3) := by decide +kernel
theorem dX12_signedSet_41 : decode cX12_signedSet 41 = .ok (.iload_n 1, 1) := by decide +kernel
theorem dX12_signedSet_42 : decode cX12_signedSet 42 = .ok (.ireturn, 1) := by decide +kernel
set_option maxRecDepth 20000 in
theorem ggX12_topPair_X12_areTwo : GoodIn wsX12_topPair wsX12_areTwo := goodIn_r _ [7, 8, 9, 10, 6, 11, 1, 12, 13, 14, 15, 16, 17, 18, 19, 33, 34, 35, 36, 37, 38, 39, 40, 41, 42, 43, 44, 45, 46, 47, 48, 49, 50, 51, 52, 53, 54, 55, 56, 57, 58, 59, 60, 61, 62, 63, 64, 65, 66, 67, 68, 69, 70, 71, 72, 73, 74, 75, 76, 77, 78] (by decide +kernel) (by decide +kernel)
set_option maxRecDepth 20000 in
theorem gX12_topPair_X12_areTwo : GoodIn wsX12_topPair (wsV RX12 316 RX12 yX12_areTwo wsX12_areTwo) := goodIn_app (goodIn_of _ (by decide +kernel)) ggX12_topPair_X12_areTwo
set_option maxRecDepth 20000 in
theorem ggX12_topPair_X12_pairAt : GoodIn wsX12_topPair wsX12_pairAt := goodIn_r _ [22, 23, 24, 25, 26, 27, 28, 29] (by decide +kernel) (by decide +kernel)
set_option maxRecDepth 20000 in
theorem gX12_topPair_X12_pairAt : GoodIn wsX12_topPair (va_wsS RX12 294 yX12_pairAt wsX12_pairAt) := goodIn_app (goodIn_of _ (by decide +kernel)) ggX12_topPair_X12_pairAt
set_option maxRecDepth 20000 in
theorem ggX12_topPair_X12_codeOf : GoodIn wsX12_topPair wsX12_codeOf := goodIn_r _ [32, 23, 24, 25, 26, 27, 28, 29] (by decide +kernel) (by decide +kernel)
set_option maxRecDepth 20000 in
theorem gX12_topPair_X12_codeOf : GoodIn wsX12_topPair (va_wsS RX12 301 yX12_codeOf wsX12_codeOf) := goodIn_app (goodIn_of _ (by decide +kernel)) ggX12_topPair_X12_codeOf
theorem dX12_topPair_0 : decode cX12_topPair 0 = .ok (.iconst (-1), 1) := by decide +kernel
theorem dX12_topPair_1 : decode cX12_topPair 1 = .ok (.istore_n 2, 1) := by decide +kernel
theorem dX12_topPair_2 : decode cX12_topPair 2 = .ok (.iconst 0, 1) := by decide +kernel
theorem dX12_topPair_3 : decode cX12_topPair 3 = .ok (.istore_n 3, 1) := by decide +kernel
theorem dX12_topPair_4 : decode cX12_topPair 4 = .ok (.iconst 0, 1) := by decide +kernel
theorem dX12_topPair_5 : decode cX12_topPair 5 = .ok (.istore 4, 2) := by decide +kernel
theorem dX12_topPair_7 : decode cX12_topPair 7 = .ok (.iload 4, 2) := by decide +kernel
theorem dX12_topPair_9 : decode cX12_topPair 9 = .ok (.aload_n 0, 1) := by decide +kernel
theorem dX12_topPair_10 : decode cX12_topPair 10 = .ok (.getfield 252, 3) := by decide +kernel
theorem dX12_topPair_13 : decode cX12_topPair 13 = .ok (.if_icmp .ge 87, 3) := by decide +kernel
theorem dX12_topPair_16 : decode cX12_topPair 16 = .ok (.iload 4, 2) := by decide +kernel
theorem dX12_topPair_18 : decode cX12_topPair 18 = .ok (.iconst 1, 1) := by decide +kernel
theorem dX12_topPair_19 : decode cX12_topPair 19 = .ok (.iadd, 1) := by decide +kernel
theorem dX12_topPair_20 : decode cX12_topPair 20 = .ok (.istore 5, 2) := by decide +kernel
theorem dX12_topPair_22 : decode cX12_topPair 22 = .ok (.iload 5, 2) := by decide +kernel
theorem dX12_topPair_24 : decode cX12_topPair 24 = .ok (.aload_n 0, 1) := by decide +kernel
theorem dX12_topPair_25 : decode cX12_topPair 25 = .ok (.getfield 252, 3) := by decide +kernel
theorem dX12_topPair_28 : decode cX12_topPair 28 = .ok (.if_icmp .ge 66, 3) := by decide +kernel
theorem dX12_topPair_31 : decode cX12_topPair 31 = .ok (.aload_n 0, 1) := by decide +kernel
theorem dX12_topPair_32 : decode cX12_topPair 32 = .ok (.iload 4, 2) := by decide +kernel
theorem dX12_topPair_34 : decode cX12_topPair 34 = .ok (.iload 5, 2) := by decide +kernel
theorem dX12_topPair_36 : decode cX12_topPair 36 = .ok (.invokevirtual 316, 3) := by decide +kernel
theorem dX12_topPair_39 : decode cX12_topPair 39 = .ok (.ifCond .eq 49, 3) := by decide +kernel
theorem dX12_topPair_42 : decode cX12_topPair 42 = .ok (.iload_n 2, 1) := by decide +kernel
theorem dX12_topPair_43 : decode cX12_topPair 43 = .ok (.iconst (-1), 1) := by decide +kernel
theorem dX12_topPair_44 : decode cX12_topPair 44 = .ok (.if_icmp .eq 21, 3) := by decide +kernel
theorem dX12_topPair_47 : decode cX12_topPair 47 = .ok (.iload_n 1, 1) := by decide +kernel
theorem dX12_topPair_48 : decode cX12_topPair 48 = .ok (.aload_n 0, 1) := by decide +kernel
theorem dX12_topPair_49 : decode cX12_topPair 49 = .ok (.getfield 58, 3) := by decide +kernel
theorem dX12_topPair_52 : decode cX12_topPair 52 = .ok (.iload 4, 2) := by decide +kernel
theorem dX12_topPair_54 : decode cX12_topPair 54 = .ok (.iload 5, 2) := by decide +kernel
theorem dX12_topPair_56 : decode cX12_topPair 56 = .ok (.invokestatic 294, 3) := by decide +kernel
theorem dX12_topPair_59 : decode cX12_topPair 59 = .ok (.iaload, 1) := by decide +kernel
theorem dX12_topPair_60 : decode cX12_topPair 60 = .ok (.imul, 1) := by decide +kernel
theorem dX12_topPair_61 : decode cX12_topPair 61 = .ok (.iload_n 3, 1) := by decide +kernel
theorem dX12_topPair_62 : decode cX12_topPair 62 = .ok (.if_icmp .le 26, 3) := by decide +kernel
theorem dX12_topPair_65 : decode cX12_topPair 65 = .ok (.iload 4, 2) := by decide +kernel
theorem dX12_topPair_67 : decode cX12_topPair 67 = .ok (.iload 5, 2) := by decide +kernel
theorem dX12_topPair_69 : decode cX12_topPair 69 = .ok (.invokestatic 301, 3) := by decide +kernel
theorem dX12_topPair_72 : decode cX12_topPair 72 = .ok (.istore_n 2, 1) := by decide +kernel
theorem dX12_topPair_73 : decode cX12_topPair 73 = .ok (.iload_n 1, 1) := by decide +kernel
theorem dX12_topPair_74 : decode cX12_topPair 74 = .ok (.aload_n 0, 1) := by decide +kernel
theorem dX12_topPair_75 : decode cX12_topPair 75 = .ok (.getfield 58, 3) := by decide +kernel
theorem dX12_topPair_78 : decode cX12_topPair 78 = .ok (.iload 4, 2) := by decide +kernel
theorem dX12_topPair_80 : decode cX12_topPair 80 = .ok (.iload 5, 2) := by decide +kernel
theorem dX12_topPair_82 : decode cX12_topPair 82 = .ok (.invokestatic 294, 3) := by decide +kernel
theorem dX12_topPair_85 : decode cX12_topPair 85 = .ok (.iaload, 1) := by decide +kernel
theorem dX12_topPair_86 : decode cX12_topPair 86 = .ok (.imul, 1) := by decide +kernel
theorem dX12_topPair_87 : decode cX12_topPair 87 = .ok (.istore_n 3, 1) := by decide +kernel
theorem dX12_topPair_88 : decode cX12_topPair 88 = .ok (.iinc 5 1, 3) := by decide +kernel
theorem dX12_topPair_91 : decode cX12_topPair 91 = .ok (.goto (-69), 3) := by decide +kernel
theorem dX12_topPair_94 : decode cX12_topPair 94 = .ok (.iinc 4 1, 3) := by decide +kernel
theorem dX12_topPair_97 : decode cX12_topPair 97 = .ok (.goto (-90), 3) := by decide +kernel
theorem dX12_topPair_100 : decode cX12_topPair 100 = .ok (.iload_n 2, 1) := by decide +kernel
theorem dX12_topPair_101 : decode cX12_topPair 101 = .ok (.ireturn, 1) := by decide +kernel
theorem dX12_topGlove_0 : decode cX12_topGlove 0 = .ok (.iconst 0, 1) := by decide +kernel
theorem dX12_topGlove_1 : decode cX12_topGlove 1 = .ok (.istore_n 2, 1) := by decide +kernel
theorem dX12_topGlove_2 : decode cX12_topGlove 2 = .ok (.iconst 1, 1) := by decide +kernel
theorem dX12_topGlove_3 : decode cX12_topGlove 3 = .ok (.istore_n 3, 1) := by decide +kernel
theorem dX12_topGlove_4 : decode cX12_topGlove 4 = .ok (.iload_n 3, 1) := by decide +kernel
theorem dX12_topGlove_5 : decode cX12_topGlove 5 = .ok (.aload_n 0, 1) := by decide +kernel
theorem dX12_topGlove_6 : decode cX12_topGlove 6 = .ok (.getfield 252, 3) := by decide +kernel
theorem dX12_topGlove_9 : decode cX12_topGlove 9 = .ok (.if_icmp .ge 34, 3) := by decide +kernel
theorem dX12_topGlove_12 : decode cX12_topGlove 12 = .ok (.aload_n 0, 1) := by decide +kernel
theorem dX12_topGlove_13 : decode cX12_topGlove 13 = .ok (.getfield 58, 3) := by decide +kernel
theorem dX12_topGlove_16 : decode cX12_topGlove 16 = .ok (.iload_n 1, 1) := by decide +kernel
theorem dX12_topGlove_17 : decode cX12_topGlove 17 = .ok (.iload_n 3, 1) := by decide +kernel
theorem dX12_topGlove_18 : decode cX12_topGlove 18 = .ok (.iadd, 1) := by decide +kernel
theorem dX12_topGlove_19 : decode cX12_topGlove 19 = .ok (.iaload, 1) := by decide +kernel
theorem dX12_topGlove_20 : decode cX12_topGlove 20 = .ok (.aload_n 0, 1) := by decide +kernel
theorem dX12_topGlove_21 : decode cX12_topGlove 21 = .ok (.getfield 58, 3) := by decide +kernel
theorem dX12_topGlove_24 : decode cX12_topGlove 24 = .ok (.iload_n 1, 1) := by decide +kernel
theorem dX12_topGlove_25 : decode cX12_topGlove 25 = .ok (.iload_n 2, 1) := by decide +kernel
theorem dX12_topGlove_26 : decode cX12_topGlove 26 = .ok (.iadd, 1) := by decide +kernel
theorem dX12_topGlove_27 : decode cX12_topGlove 27 = .ok (.iaload, 1) := by decide +kernel
theorem dX12_topGlove_28 : decode cX12_topGlove 28 = .ok (.if_icmp .le 7, 3) := by decide +kernel
theorem dX12_topGlove_31 : decode cX12_topGlove 31 = .ok (.iload_n 3, 1) := by decide +kernel
theorem dX12_topGlove_32 : decode cX12_topGlove 32 = .ok (.goto 4, 3) := by decide +kernel
theorem dX12_topGlove_35 : decode cX12_topGlove 35 = .ok (.iload_n 2, 1) := by decide +kernel
theorem dX12_topGlove_36 : decode cX12_topGlove 36 = .ok (.istore_n 2, 1) := by decide +kernel
theorem dX12_topGlove_37 : decode cX12_topGlove 37 = .ok (.iinc 3 1, 3) := by decide +kernel
theorem dX12_topGlove_40 : decode cX12_topGlove 40 = .ok (.goto (-36), 3) := by decide +kernel
theorem dX12_topGlove_43 : decode cX12_topGlove 43 = .ok (.iload_n 2, 1) := by decide +kernel
theorem dX12_topGlove_44 : decode cX12_topGlove 44 = .ok (.ireturn, 1) := by decide +kernel
theorem dX12_heaviest_0 : decode cX12_heaviest 0 = .ok (.aload_n 0, 1) := by decide +kernel
theorem dX12_heaviest_1 : decode cX12_heaviest 1 = .ok (.getfield 255, 3) := by decide +kernel
theorem dX12_heaviest_4 : decode cX12_heaviest 4 = .ok (.ifCond .ne 7, 3) := by decide +kernel
theorem dX12_heaviest_7 : decode cX12_heaviest 7 = .ok (.iconst (-1), 1) := by decide +kernel
theorem dX12_heaviest_8 : decode cX12_heaviest 8 = .ok (.goto 4, 3) := by decide +kernel
theorem dX12_heaviest_11 : decode cX12_heaviest 11 = .ok (.iconst 0, 1) := by decide +kernel
theorem dX12_heaviest_12 : decode cX12_heaviest 12 = .ok (.istore_n 1, 1) := by decide +kernel
theorem dX12_heaviest_13 : decode cX12_heaviest 13 = .ok (.iconst 1, 1) := by decide +kernel
theorem dX12_heaviest_14 : decode cX12_heaviest 14 = .ok (.istore_n 2, 1) := by decide +kernel
theorem dX12_heaviest_15 : decode cX12_heaviest 15 = .ok (.iload_n 2, 1) := by decide +kernel
theorem dX12_heaviest_16 : decode cX12_heaviest 16 = .ok (.aload_n 0, 1) := by decide +kernel
theorem dX12_heaviest_17 : decode cX12_heaviest 17 = .ok (.getfield 255, 3) := by decide +kernel
theorem dX12_heaviest_20 : decode cX12_heaviest 20 = .ok (.if_icmp .ge 38, 3) := by decide +kernel
theorem dX12_heaviest_23 : decode cX12_heaviest 23 = .ok (.aload_n 0, 1) := by decide +kernel
theorem dX12_heaviest_24 : decode cX12_heaviest 24 = .ok (.getfield 55, 3) := by decide +kernel
theorem dX12_heaviest_27 : decode cX12_heaviest 27 = .ok (.iconst 2, 1) := by decide +kernel
theorem dX12_heaviest_28 : decode cX12_heaviest 28 = .ok (.iload_n 2, 1) := by decide +kernel
theorem dX12_heaviest_29 : decode cX12_heaviest 29 = .ok (.imul, 1) := by decide +kernel
theorem dX12_heaviest_30 : decode cX12_heaviest 30 = .ok (.iconst 0, 1) := by decide +kernel
theorem dX12_heaviest_31 : decode cX12_heaviest 31 = .ok (.iadd, 1) := by decide +kernel
theorem dX12_heaviest_32 : decode cX12_heaviest 32 = .ok (.iaload, 1) := by decide +kernel
theorem dX12_heaviest_33 : decode cX12_heaviest 33 = .ok (.aload_n 0, 1) := by decide +kernel
theorem dX12_heaviest_34 : decode cX12_heaviest 34 = .ok (.getfield 55, 3) := by decide +kernel
theorem dX12_heaviest_37 : decode cX12_heaviest 37 = .ok (.iconst 2, 1) := by decide +kernel
theorem dX12_heaviest_38 : decode cX12_heaviest 38 = .ok (.iload_n 1, 1) := by decide +kernel
theorem dX12_heaviest_39 : decode cX12_heaviest 39 = .ok (.imul, 1) := by decide +kernel
theorem dX12_heaviest_40 : decode cX12_heaviest 40 = .ok (.iconst 0, 1) := by decide +kernel
theorem dX12_heaviest_41 : decode cX12_heaviest 41 = .ok (.iadd, 1) := by decide +kernel
theorem dX12_heaviest_42 : decode cX12_heaviest 42 = .ok (.iaload, 1) := by decide +kernel
theorem dX12_heaviest_43 : decode cX12_heaviest 43 = .ok (.if_icmp .le 7, 3) := by decide +kernel
theorem dX12_heaviest_46 : decode cX12_heaviest 46 = .ok (.iload_n 2, 1) := by decide +kernel
theorem dX12_heaviest_47 : decode cX12_heaviest 47 = .ok (.goto 4, 3) := by decide +kernel
theorem dX12_heaviest_50 : decode cX12_heaviest 50 = .ok (.iload_n 1, 1) := by decide +kernel
theorem dX12_heaviest_51 : decode cX12_heaviest 51 = .ok (.istore_n 1, 1) := by decide +kernel
theorem dX12_heaviest_52 : decode cX12_heaviest 52 = .ok (.iinc 2 1, 3) := by decide +kernel
theorem dX12_heaviest_55 : decode cX12_heaviest 55 = .ok (.goto (-40), 3) := by decide +kernel
theorem dX12_heaviest_58 : decode cX12_heaviest 58 = .ok (.iload_n 1, 1) := by decide +kernel
theorem dX12_heaviest_59 : decode cX12_heaviest 59 = .ok (.ireturn, 1) := by decide +kernel
theorem dX12_bound_0 : decode cX12_bound 0 = .ok (.iconst 0, 1) := by decide +kernel
theorem dX12_bound_1 : decode cX12_bound 1 = .ok (.istore_n 1, 1) := by decide +kernel
theorem dX12_bound_2 : decode cX12_bound 2 = .ok (.iconst 0, 1) := by decide +kernel
theorem dX12_bound_3 : decode cX12_bound 3 = .ok (.istore_n 2, 1) := by decide +kernel
theorem dX12_bound_4 : decode cX12_bound 4 = .ok (.iload_n 2, 1) := by decide +kernel
theorem dX12_bound_5 : decode cX12_bound 5 = .ok (.aload_n 0, 1) := by decide +kernel
theorem dX12_bound_6 : decode cX12_bound 6 = .ok (.getfield 255, 3) := by decide +kernel
theorem dX12_bound_9 : decode cX12_bound 9 = .ok (.if_icmp .ge 39, 3) := by decide +kernel
theorem dX12_bound_12 : decode cX12_bound 12 = .ok (.iload_n 1, 1) := by decide +kernel
theorem dX12_bound_13 : decode cX12_bound 13 = .ok (.aload_n 0, 1) := by decide +kernel
theorem dX12_bound_14 : decode cX12_bound 14 = .ok (.getfield 58, 3) := by decide +kernel
theorem dX12_bound_17 : decode cX12_bound 17 = .ok (.bipush 60, 2) := by decide +kernel
theorem dX12_bound_19 : decode cX12_bound 19 = .ok (.iload_n 2, 1) := by decide +kernel
theorem dX12_bound_20 : decode cX12_bound 20 = .ok (.iadd, 1) := by decide +kernel
theorem dX12_bound_21 : decode cX12_bound 21 = .ok (.iaload, 1) := by decide +kernel
theorem dX12_bound_22 : decode cX12_bound 22 = .ok (.iconst (-1), 1) := by decide +kernel
theorem dX12_bound_23 : decode cX12_bound 23 = .ok (.if_icmp .ne 7, 3) := by decide +kernel
theorem dX12_bound_26 : decode cX12_bound 26 = .ok (.iconst 0, 1) := by decide +kernel
theorem dX12_bound_27 : decode cX12_bound 27 = .ok (.goto 13, 3) := by decide +kernel
theorem dX12_bound_30 : decode cX12_bound 30 = .ok (.aload_n 0, 1) := by decide +kernel
theorem dX12_bound_31 : decode cX12_bound 31 = .ok (.getfield 55, 3) := by decide +kernel
theorem dX12_bound_34 : decode cX12_bound 34 = .ok (.iconst 2, 1) := by decide +kernel
theorem dX12_bound_35 : decode cX12_bound 35 = .ok (.iload_n 2, 1) := by decide +kernel
theorem dX12_bound_36 : decode cX12_bound 36 = .ok (.imul, 1) := by decide +kernel
theorem dX12_bound_37 : decode cX12_bound 37 = .ok (.iconst 0, 1) := by decide +kernel
theorem dX12_bound_38 : decode cX12_bound 38 = .ok (.iadd, 1) := by decide +kernel
theorem dX12_bound_39 : decode cX12_bound 39 = .ok (.iaload, 1) := by decide +kernel
theorem dX12_bound_40 : decode cX12_bound 40 = .ok (.iadd, 1) := by decide +kernel
theorem dX12_bound_41 : decode cX12_bound 41 = .ok (.istore_n 1, 1) := by decide +kernel
theorem dX12_bound_42 : decode cX12_bound 42 = .ok (.iinc 2 1, 3) := by decide +kernel
theorem dX12_bound_45 : decode cX12_bound 45 = .ok (.goto (-41), 3) := by decide +kernel
theorem dX12_bound_48 : decode cX12_bound 48 = .ok (.iload_n 1, 1) := by decide +kernel
theorem dX12_bound_49 : decode cX12_bound 49 = .ok (.ireturn, 1) := by decide +kernel
theorem dX12_due_0 : decode cX12_due 0 = .ok (.iconst 0, 1) := by decide +kernel
theorem dX12_due_1 : decode cX12_due 1 = .ok (.istore_n 1, 1) := by decide +kernel
theorem dX12_due_2 : decode cX12_due 2 = .ok (.iconst 0, 1) := by decide +kernel
theorem dX12_due_3 : decode cX12_due 3 = .ok (.istore_n 2, 1) := by decide +kernel
theorem dX12_due_4 : decode cX12_due 4 = .ok (.iload_n 2, 1) := by decide +kernel
theorem dX12_due_5 : decode cX12_due 5 = .ok (.bipush 36, 2) := by decide +kernel
theorem dX12_due_7 : decode cX12_due 7 = .ok (.if_icmp .ge 22, 3) := by decide +kernel
theorem dX12_due_10 : decode cX12_due 10 = .ok (.iload_n 1, 1) := by decide +kernel
theorem dX12_due_11 : decode cX12_due 11 = .ok (.aload_n 0, 1) := by decide +kernel
theorem dX12_due_12 : decode cX12_due 12 = .ok (.getfield 58, 3) := by decide +kernel
theorem dX12_due_15 : decode cX12_due 15 = .ok (.iconst 0, 1) := by decide +kernel
theorem dX12_due_16 : decode cX12_due 16 = .ok (.iload_n 2, 1) := by decide +kernel
theorem dX12_due_17 : decode cX12_due 17 = .ok (.iadd, 1) := by decide +kernel
theorem dX12_due_18 : decode cX12_due 18 = .ok (.iaload, 1) := by decide +kernel
theorem dX12_due_19 : decode cX12_due 19 = .ok (.invokestatic 282, 3) := by decide +kernel
theorem dX12_due_22 : decode cX12_due 22 = .ok (.istore_n 1, 1) := by decide +kernel
theorem dX12_due_23 : decode cX12_due 23 = .ok (.iinc 2 1, 3) := by decide +kernel
theorem dX12_due_26 : decode cX12_due 26 = .ok (.goto (-22), 3) := by decide +kernel
theorem dX12_due_29 : decode cX12_due 29 = .ok (.iconst 0, 1) := by decide +kernel
theorem dX12_due_30 : decode cX12_due 30 = .ok (.istore_n 2, 1) := by decide +kernel
theorem dX12_due_31 : decode cX12_due 31 = .ok (.iconst 0, 1) := by decide +kernel
theorem dX12_due_32 : decode cX12_due 32 = .ok (.istore_n 3, 1) := by decide +kernel
theorem dX12_due_33 : decode cX12_due 33 = .ok (.iload_n 3, 1) := by decide +kernel
theorem dX12_due_34 : decode cX12_due 34 = .ok (.aload_n 0, 1) := by decide +kernel
theorem dX12_due_35 : decode cX12_due 35 = .ok (.getfield 255, 3) := by decide +kernel
theorem dX12_due_38 : decode cX12_due 38 = .ok (.if_icmp .ge 46, 3) := by decide +kernel
theorem dX12_due_41 : decode cX12_due 41 = .ok (.iload_n 2, 1) := by decide +kernel
theorem dX12_due_42 : decode cX12_due 42 = .ok (.aload_n 0, 1) := by decide +kernel
theorem dX12_due_43 : decode cX12_due 43 = .ok (.getfield 58, 3) := by decide +kernel
theorem dX12_due_46 : decode cX12_due 46 = .ok (.bipush 60, 2) := by decide +kernel
theorem dX12_due_48 : decode cX12_due 48 = .ok (.iload_n 3, 1) := by decide +kernel
theorem dX12_due_49 : decode cX12_due 49 = .ok (.iadd, 1) := by decide +kernel
theorem dX12_due_50 : decode cX12_due 50 = .ok (.iaload, 1) := by decide +kernel
theorem dX12_due_51 : decode cX12_due 51 = .ok (.iconst (-1), 1) := by decide +kernel
theorem dX12_due_52 : decode cX12_due 52 = .ok (.if_icmp .ne 23, 3) := by decide +kernel
theorem dX12_due_55 : decode cX12_due 55 = .ok (.aload_n 0, 1) := by decide +kernel
theorem dX12_due_56 : decode cX12_due 56 = .ok (.getfield 55, 3) := by decide +kernel
theorem dX12_due_59 : decode cX12_due 59 = .ok (.iconst 2, 1) := by decide +kernel
theorem dX12_due_60 : decode cX12_due 60 = .ok (.iload_n 3, 1) := by decide +kernel
theorem dX12_due_61 : decode cX12_due 61 = .ok (.imul, 1) := by decide +kernel
theorem dX12_due_62 : decode cX12_due 62 = .ok (.iconst 1, 1) := by decide +kernel
theorem dX12_due_63 : decode cX12_due 63 = .ok (.iadd, 1) := by decide +kernel
theorem dX12_due_64 : decode cX12_due 64 = .ok (.iaload, 1) := by decide +kernel
theorem dX12_due_65 : decode cX12_due 65 = .ok (.iload_n 1, 1) := by decide +kernel
theorem dX12_due_66 : decode cX12_due 66 = .ok (.if_icmp .gt 9, 3) := by decide +kernel
theorem dX12_due_69 : decode cX12_due 69 = .ok (.iconst 1, 1) := by decide +kernel
theorem dX12_due_70 : decode cX12_due 70 = .ok (.iload_n 3, 1) := by decide +kernel
theorem dX12_due_71 : decode cX12_due 71 = .ok (.ishl, 1) := by decide +kernel
theorem dX12_due_72 : decode cX12_due 72 = .ok (.goto 4, 3) := by decide +kernel
theorem dX12_due_75 : decode cX12_due 75 = .ok (.iconst 0, 1) := by decide +kernel
theorem dX12_due_76 : decode cX12_due 76 = .ok (.ior, 1) := by decide +kernel
theorem dX12_due_77 : decode cX12_due 77 = .ok (.istore_n 2, 1) := by decide +kernel
theorem dX12_due_78 : decode cX12_due 78 = .ok (.iinc 3 1, 3) := by decide +kernel
theorem dX12_due_81 : decode cX12_due 81 = .ok (.goto (-48), 3) := by decide +kernel
theorem dX12_due_84 : decode cX12_due 84 = .ok (.iload_n 2, 1) := by decide +kernel
theorem dX12_due_85 : decode cX12_due 85 = .ok (.ireturn, 1) := by decide +kernel
set_option maxRecDepth 20000 in
theorem ggX12_most_X12_metSet : GoodIn wsX12_most wsX12_metSet := goodIn_r _ [6, 1, 7, 8, 9, 5, 10, 11, 67, 68, 69, 70, 71, 72, 73, 74, 75, 76, 77, 78, 79, 80, 81, 82, 83, 84, 85, 86, 87, 88, 89, 90, 91, 92, 93, 94, 95, 96, 97, 98, 99, 100, 101, 102, 103, 104, 105, 106, 107, 108, 109, 110, 111, 112] (by decide +kernel) (by decide +kernel)
set_option maxRecDepth 20000 in
theorem gX12_most_X12_metSet : GoodIn wsX12_most (wsV RX12 426 RX12 yX12_metSet wsX12_metSet) := goodIn_app (goodIn_of _ (by decide +kernel)) ggX12_most_X12_metSet
set_option maxRecDepth 20000 in
theorem ggX12_most_X12_signedSet : GoodIn wsX12_most wsX12_signedSet := goodIn_r _ [15, 16, 11, 67, 68, 69, 70, 71, 72, 73, 74, 75, 76, 77, 78, 79, 80, 81, 82, 83, 84, 85, 86, 87, 88, 89, 90, 91, 92, 93, 94, 95, 96, 97, 98, 99, 100, 101, 102, 103, 104, 105, 106, 107, 108, 109, 110, 111, 112] (by decide +kernel) (by decide +kernel)
set_option maxRecDepth 20000 in
theorem gX12_most_X12_signedSet : GoodIn wsX12_most (wsV RX12 429 RX12 yX12_signedSet wsX12_signedSet) := goodIn_app (goodIn_of _ (by decide +kernel)) ggX12_most_X12_signedSet
set_option maxRecDepth 20000 in
theorem ggX12_most_X12_topPair : GoodIn wsX12_most wsX12_topPair := goodIn_r _ [20, 1, 11, 21, 22, 23, 5, 24, 25, 26, 27, 28, 29, 30, 31, 32, 33, 34, 35, 36, 37, 38, 39, 40, 41, 42, 43, 44, 45, 46, 47, 48, 49, 67, 68, 69, 70, 71, 72, 73, 74, 75, 76, 77, 78, 79, 80, 81, 82, 83, 84, 85, 86, 87, 88, 89, 90, 91, 92, 93, 94, 95, 96, 97, 98, 99, 100, 101, 102, 103, 104, 105, 106, 107, 108, 109, 110, 111, 112] (by decide +kernel) (by decide +kernel)
set_option maxRecDepth 20000 in
theorem gX12_most_X12_topPair : GoodIn wsX12_most (wsV RX12 432 RX12 yX12_topPair wsX12_topPair) := goodIn_app (goodIn_of _ (by decide +kernel)) ggX12_most_X12_topPair
set_option maxRecDepth 20000 in
theorem ggX12_most_X12_topGlove : GoodIn wsX12_most wsX12_topGlove := goodIn_r _ [53, 1, 11, 67, 68, 69, 70, 71, 72, 73, 74, 75, 76, 77, 78, 79, 80, 81, 82, 83, 84, 85, 86, 87, 88, 89, 90, 91, 92, 93, 94, 95, 96, 97, 98, 99, 100, 101, 102, 103, 104, 105, 106, 107, 108, 109, 110, 111, 112] (by decide +kernel) (by decide +kernel)
set_option maxRecDepth 20000 in
theorem gX12_most_X12_topGlove : GoodIn wsX12_most (wsV RX12 435 RX12 yX12_topGlove wsX12_topGlove) := goodIn_app (goodIn_of _ (by decide +kernel)) ggX12_most_X12_topGlove
set_option maxRecDepth 20000 in
theorem ggX12_most_X12_heaviest : GoodIn wsX12_most wsX12_heaviest := goodIn_r _ [57, 16, 58, 67, 68, 69, 70, 71, 72, 73, 74, 75, 76, 77, 78, 79, 80, 81, 82, 83, 84, 85, 86, 87, 88, 89, 90, 91, 92, 93, 94, 95, 96, 97, 98, 99, 100, 101, 102, 103, 104, 105, 106, 107, 108, 109, 110, 111, 112] (by decide +kernel) (by decide +kernel)
set_option maxRecDepth 20000 in
theorem gX12_most_X12_heaviest : GoodIn wsX12_most (wsV RX12 438 RX12 yX12_heaviest wsX12_heaviest) := goodIn_app (goodIn_of _ (by decide +kernel)) ggX12_most_X12_heaviest
set_option maxRecDepth 20000 in
theorem ggX12_most_X12_bound : GoodIn wsX12_most wsX12_bound := goodIn_r _ [62, 16, 11, 58, 67, 68, 69, 70, 71, 72, 73, 74, 75, 76, 77, 78, 79, 80, 81, 82, 83, 84, 85, 86, 87, 88, 89, 90, 91, 92, 93, 94, 95, 96, 97, 98, 99, 100, 101, 102, 103, 104, 105, 106, 107, 108, 109, 110, 111, 112] (by decide +kernel) (by decide +kernel)
set_option maxRecDepth 20000 in
theorem gX12_most_X12_bound : GoodIn wsX12_most (wsV RX12 441 RX12 yX12_bound wsX12_bound) := goodIn_app (goodIn_of _ (by decide +kernel)) ggX12_most_X12_bound
set_option maxRecDepth 20000 in
theorem ggX12_most_X12_due : GoodIn wsX12_most wsX12_due := goodIn_r _ [66, 11, 44, 45, 42, 46, 16, 58, 67, 68, 69, 70, 71, 72, 73, 74, 75, 76, 77, 78, 79, 80, 81, 82, 83, 84, 85, 86, 87, 88, 89, 90, 91, 92, 93, 94, 95, 96, 97, 98, 99, 100, 101, 102, 103, 104, 105, 106, 107, 108, 109, 110, 111, 112] (by decide +kernel) (by decide +kernel)
set_option maxRecDepth 20000 in
theorem gX12_most_X12_due : GoodIn wsX12_most (wsV RX12 444 RX12 yX12_due wsX12_due) := goodIn_app (goodIn_of _ (by decide +kernel)) ggX12_most_X12_due
theorem dX12_most_0 : decode cX12_most 0 = .ok (.aload_n 0, 1) := by decide +kernel
theorem dX12_most_1 : decode cX12_most 1 = .ok (.getfield 252, 3) := by decide +kernel
theorem dX12_most_4 : decode cX12_most 4 = .ok (.ifCond .ne 5, 3) := by decide +kernel
theorem dX12_most_7 : decode cX12_most 7 = .ok (.iconst (-1), 1) := by decide +kernel
theorem dX12_most_8 : decode cX12_most 8 = .ok (.ireturn, 1) := by decide +kernel
theorem dX12_most_9 : decode cX12_most 9 = .ok (.iload_n 1, 1) := by decide +kernel
theorem dX12_most_10 : decode cX12_most 10 = .ok (.tableswitch 101 0 8 #[50, 55, 60, 66, 72, 79, 86, 91, 96], 50) := by decide +kernel
theorem dX12_most_60 : decode cX12_most 60 = .ok (.aload_n 0, 1) := by decide +kernel
theorem dX12_most_61 : decode cX12_most 61 = .ok (.invokevirtual 426, 3) := by decide +kernel
theorem dX12_most_64 : decode cX12_most 64 = .ok (.ireturn, 1) := by decide +kernel
theorem dX12_most_65 : decode cX12_most 65 = .ok (.aload_n 0, 1) := by decide +kernel
theorem dX12_most_66 : decode cX12_most 66 = .ok (.invokevirtual 429, 3) := by decide +kernel
theorem dX12_most_69 : decode cX12_most 69 = .ok (.ireturn, 1) := by decide +kernel
theorem dX12_most_70 : decode cX12_most 70 = .ok (.aload_n 0, 1) := by decide +kernel
theorem dX12_most_71 : decode cX12_most 71 = .ok (.iconst 1, 1) := by decide +kernel
theorem dX12_most_72 : decode cX12_most 72 = .ok (.invokevirtual 432, 3) := by decide +kernel
theorem dX12_most_75 : decode cX12_most 75 = .ok (.ireturn, 1) := by decide +kernel
theorem dX12_most_76 : decode cX12_most 76 = .ok (.aload_n 0, 1) := by decide +kernel
theorem dX12_most_77 : decode cX12_most 77 = .ok (.iconst (-1), 1) := by decide +kernel
theorem dX12_most_78 : decode cX12_most 78 = .ok (.invokevirtual 432, 3) := by decide +kernel
theorem dX12_most_81 : decode cX12_most 81 = .ok (.ireturn, 1) := by decide +kernel
theorem dX12_most_82 : decode cX12_most 82 = .ok (.aload_n 0, 1) := by decide +kernel
theorem dX12_most_83 : decode cX12_most 83 = .ok (.bipush 36, 2) := by decide +kernel
theorem dX12_most_85 : decode cX12_most 85 = .ok (.invokevirtual 435, 3) := by decide +kernel
theorem dX12_most_88 : decode cX12_most 88 = .ok (.ireturn, 1) := by decide +kernel
theorem dX12_most_89 : decode cX12_most 89 = .ok (.aload_n 0, 1) := by decide +kernel
theorem dX12_most_90 : decode cX12_most 90 = .ok (.bipush 42, 2) := by decide +kernel
theorem dX12_most_92 : decode cX12_most 92 = .ok (.invokevirtual 435, 3) := by decide +kernel
theorem dX12_most_95 : decode cX12_most 95 = .ok (.ireturn, 1) := by decide +kernel
theorem dX12_most_96 : decode cX12_most 96 = .ok (.aload_n 0, 1) := by decide +kernel
theorem dX12_most_97 : decode cX12_most 97 = .ok (.invokevirtual 438, 3) := by decide +kernel
theorem dX12_most_100 : decode cX12_most 100 = .ok (.ireturn, 1) := by decide +kernel
theorem dX12_most_101 : decode cX12_most 101 = .ok (.aload_n 0, 1) := by decide +kernel
theorem dX12_most_102 : decode cX12_most 102 = .ok (.invokevirtual 441, 3) := by decide +kernel
theorem dX12_most_105 : decode cX12_most 105 = .ok (.ireturn, 1) := by decide +kernel
theorem dX12_most_106 : decode cX12_most 106 = .ok (.aload_n 0, 1) := by decide +kernel
theorem dX12_most_107 : decode cX12_most 107 = .ok (.invokevirtual 444, 3) := by decide +kernel
theorem dX12_most_110 : decode cX12_most 110 = .ok (.ireturn, 1) := by decide +kernel
theorem dX12_most_111 : decode cX12_most 111 = .ok (.iconst (-1), 1) := by decide +kernel
theorem dX12_most_112 : decode cX12_most 112 = .ok (.ireturn, 1) := by decide +kernel
set_option maxRecDepth 20000 in
theorem ggX12_allies_X12_isGlove : GoodIn wsX12_allies wsX12_isGlove := goodIn_r _ [6, 1, 7, 8, 5, 9, 23, 24, 25, 26, 27, 28, 29, 30, 31, 32, 33, 34, 35, 36, 37, 38, 39, 40, 41, 42, 43, 44, 45, 46, 47, 48, 49, 50, 51, 52, 53, 54, 55, 56, 57, 58, 59, 60, 61, 62, 63, 64, 65, 66, 67, 68] (by decide +kernel) (by decide +kernel)
set_option maxRecDepth 20000 in
theorem gX12_allies_X12_isGlove : GoodIn wsX12_allies (wsV RX12 277 RX12 yX12_isGlove wsX12_isGlove) := goodIn_app (goodIn_of _ (by decide +kernel)) ggX12_allies_X12_isGlove
set_option maxRecDepth 20000 in
theorem ggX12_allies_X12_areTwo : GoodIn wsX12_allies wsX12_areTwo := goodIn_r _ [13, 2, 3, 4, 5, 6, 1, 7, 8, 9, 14, 15, 16, 17, 18, 23, 24, 25, 26, 27, 28, 29, 30, 31, 32, 33, 34, 35, 36, 37, 38, 39, 40, 41, 42, 43, 44, 45, 46, 47, 48, 49, 50, 51, 52, 53, 54, 55, 56, 57, 58, 59, 60, 61, 62, 63, 64, 65, 66, 67, 68] (by decide +kernel) (by decide +kernel)
set_option maxRecDepth 20000 in
theorem gX12_allies_X12_areTwo : GoodIn wsX12_allies (wsV RX12 316 RX12 yX12_areTwo wsX12_areTwo) := goodIn_app (goodIn_of _ (by decide +kernel)) ggX12_allies_X12_areTwo
set_option maxRecDepth 20000 in
theorem ggX12_allies_X12_areAllies : GoodIn wsX12_allies wsX12_areAllies := goodIn_r _ [22, 14, 15, 16, 5, 17, 18, 23, 24, 25, 26, 27, 28, 29, 30, 31, 32, 33, 34, 35, 36, 37, 38, 39, 40, 41, 42, 43, 44, 45, 46, 47, 48, 49, 50, 51, 52, 53, 54, 55, 56, 57, 58, 59, 60, 61, 62, 63, 64, 65, 66, 67, 68] (by decide +kernel) (by decide +kernel)
set_option maxRecDepth 20000 in
theorem gX12_allies_X12_areAllies : GoodIn wsX12_allies (wsV RX12 287 RX12 yX12_areAllies wsX12_areAllies) := goodIn_app (goodIn_of _ (by decide +kernel)) ggX12_allies_X12_areAllies
theorem dX12_allies_0 : decode cX12_allies 0 = .ok (.aload_n 0, 1) := by decide +kernel
theorem dX12_allies_1 : decode cX12_allies 1 = .ok (.iload_n 1, 1) := by decide +kernel
theorem dX12_allies_2 : decode cX12_allies 2 = .ok (.invokevirtual 277, 3) := by decide +kernel
theorem dX12_allies_5 : decode cX12_allies 5 = .ok (.ifCond .ne 5, 3) := by decide +kernel
theorem dX12_allies_8 : decode cX12_allies 8 = .ok (.iconst (-1), 1) := by decide +kernel
theorem dX12_allies_9 : decode cX12_allies 9 = .ok (.ireturn, 1) := by decide +kernel
theorem dX12_allies_10 : decode cX12_allies 10 = .ok (.iconst 0, 1) := by decide +kernel
theorem dX12_allies_11 : decode cX12_allies 11 = .ok (.istore_n 2, 1) := by decide +kernel
theorem dX12_allies_12 : decode cX12_allies 12 = .ok (.iconst 0, 1) := by decide +kernel
theorem dX12_allies_13 : decode cX12_allies 13 = .ok (.istore_n 3, 1) := by decide +kernel
theorem dX12_allies_14 : decode cX12_allies 14 = .ok (.iload_n 3, 1) := by decide +kernel
theorem dX12_allies_15 : decode cX12_allies 15 = .ok (.aload_n 0, 1) := by decide +kernel
theorem dX12_allies_16 : decode cX12_allies 16 = .ok (.getfield 252, 3) := by decide +kernel
theorem dX12_allies_19 : decode cX12_allies 19 = .ok (.if_icmp .ge 37, 3) := by decide +kernel
theorem dX12_allies_22 : decode cX12_allies 22 = .ok (.iload_n 2, 1) := by decide +kernel
theorem dX12_allies_23 : decode cX12_allies 23 = .ok (.aload_n 0, 1) := by decide +kernel
theorem dX12_allies_24 : decode cX12_allies 24 = .ok (.iload_n 1, 1) := by decide +kernel
theorem dX12_allies_25 : decode cX12_allies 25 = .ok (.iload_n 3, 1) := by decide +kernel
theorem dX12_allies_26 : decode cX12_allies 26 = .ok (.invokevirtual 316, 3) := by decide +kernel
theorem dX12_allies_29 : decode cX12_allies 29 = .ok (.ifCond .eq 18, 3) := by decide +kernel
theorem dX12_allies_32 : decode cX12_allies 32 = .ok (.aload_n 0, 1) := by decide +kernel
theorem dX12_allies_33 : decode cX12_allies 33 = .ok (.iload_n 1, 1) := by decide +kernel
theorem dX12_allies_34 : decode cX12_allies 34 = .ok (.iload_n 3, 1) := by decide +kernel
theorem dX12_allies_35 : decode cX12_allies 35 = .ok (.invokevirtual 287, 3) := by decide +kernel
theorem dX12_allies_38 : decode cX12_allies 38 = .ok (.ifCond .eq 9, 3) := by decide +kernel
theorem dX12_allies_41 : decode cX12_allies 41 = .ok (.iconst 1, 1) := by decide +kernel
theorem dX12_allies_42 : decode cX12_allies 42 = .ok (.iload_n 3, 1) := by decide +kernel
theorem dX12_allies_43 : decode cX12_allies 43 = .ok (.ishl, 1) := by decide +kernel
theorem dX12_allies_44 : decode cX12_allies 44 = .ok (.goto 4, 3) := by decide +kernel
theorem dX12_allies_47 : decode cX12_allies 47 = .ok (.iconst 0, 1) := by decide +kernel
theorem dX12_allies_48 : decode cX12_allies 48 = .ok (.ior, 1) := by decide +kernel
theorem dX12_allies_49 : decode cX12_allies 49 = .ok (.istore_n 2, 1) := by decide +kernel
theorem dX12_allies_50 : decode cX12_allies 50 = .ok (.iinc 3 1, 3) := by decide +kernel
theorem dX12_allies_53 : decode cX12_allies 53 = .ok (.goto (-39), 3) := by decide +kernel
theorem dX12_allies_56 : decode cX12_allies 56 = .ok (.iload_n 2, 1) := by decide +kernel
theorem dX12_allies_57 : decode cX12_allies 57 = .ok (.ireturn, 1) := by decide +kernel
theorem dX12_image_0 : decode cX12_image 0 = .ok (.aload_n 0, 1) := by decide +kernel
theorem dX12_image_1 : decode cX12_image 1 = .ok (.getfield 252, 3) := by decide +kernel
theorem dX12_image_4 : decode cX12_image 4 = .ok (.ifCond .ne 5, 3) := by decide +kernel
theorem dX12_image_7 : decode cX12_image 7 = .ok (.iconst (-1), 1) := by decide +kernel
theorem dX12_image_8 : decode cX12_image 8 = .ok (.ireturn, 1) := by decide +kernel
theorem dX12_image_9 : decode cX12_image 9 = .ok (.iconst 0, 1) := by decide +kernel
theorem dX12_image_10 : decode cX12_image 10 = .ok (.istore_n 1, 1) := by decide +kernel
theorem dX12_image_11 : decode cX12_image 11 = .ok (.iload_n 1, 1) := by decide +kernel
theorem dX12_image_12 : decode cX12_image 12 = .ok (.sipush 250, 3) := by decide +kernel
theorem dX12_image_15 : decode cX12_image 15 = .ok (.if_icmp .ge 21, 3) := by decide +kernel
theorem dX12_image_18 : decode cX12_image 18 = .ok (.aload_n 0, 1) := by decide +kernel
theorem dX12_image_19 : decode cX12_image 19 = .ok (.getfield 93, 3) := by decide +kernel
theorem dX12_image_22 : decode cX12_image 22 = .ok (.iload_n 1, 1) := by decide +kernel
theorem dX12_image_23 : decode cX12_image 23 = .ok (.aload_n 0, 1) := by decide +kernel
theorem dX12_image_24 : decode cX12_image 24 = .ok (.getfield 58, 3) := by decide +kernel
theorem dX12_image_27 : decode cX12_image 27 = .ok (.iload_n 1, 1) := by decide +kernel
theorem dX12_image_28 : decode cX12_image 28 = .ok (.iaload, 1) := by decide +kernel
theorem dX12_image_29 : decode cX12_image 29 = .ok (.iastore, 1) := by decide +kernel
theorem dX12_image_30 : decode cX12_image 30 = .ok (.iinc 1 1, 3) := by decide +kernel
theorem dX12_image_33 : decode cX12_image 33 = .ok (.goto (-22), 3) := by decide +kernel
theorem dX12_image_36 : decode cX12_image 36 = .ok (.aload_n 0, 1) := by decide +kernel
theorem dX12_image_37 : decode cX12_image 37 = .ok (.iconst 1, 1) := by decide +kernel
theorem dX12_image_38 : decode cX12_image 38 = .ok (.putfield 267, 3) := by decide +kernel
theorem dX12_image_41 : decode cX12_image 41 = .ok (.aload_n 0, 1) := by decide +kernel
theorem dX12_image_42 : decode cX12_image 42 = .ok (.getfield 58, 3) := by decide +kernel
theorem dX12_image_45 : decode cX12_image 45 = .ok (.bipush 68, 2) := by decide +kernel
theorem dX12_image_47 : decode cX12_image 47 = .ok (.iaload, 1) := by decide +kernel
theorem dX12_image_48 : decode cX12_image 48 = .ok (.ireturn, 1) := by decide +kernel
theorem dX12_back_0 : decode cX12_back 0 = .ok (.aload_n 0, 1) := by decide +kernel
theorem dX12_back_1 : decode cX12_back 1 = .ok (.getfield 267, 3) := by decide +kernel
theorem dX12_back_4 : decode cX12_back 4 = .ok (.ifCond .ne 5, 3) := by decide +kernel
theorem dX12_back_7 : decode cX12_back 7 = .ok (.iconst (-1), 1) := by decide +kernel
theorem dX12_back_8 : decode cX12_back 8 = .ok (.ireturn, 1) := by decide +kernel
theorem dX12_back_9 : decode cX12_back 9 = .ok (.iconst 0, 1) := by decide +kernel
theorem dX12_back_10 : decode cX12_back 10 = .ok (.istore_n 1, 1) := by decide +kernel
theorem dX12_back_11 : decode cX12_back 11 = .ok (.iload_n 1, 1) := by decide +kernel
theorem dX12_back_12 : decode cX12_back 12 = .ok (.sipush 250, 3) := by decide +kernel
theorem dX12_back_15 : decode cX12_back 15 = .ok (.if_icmp .ge 21, 3) := by decide +kernel
theorem dX12_back_18 : decode cX12_back 18 = .ok (.aload_n 0, 1) := by decide +kernel
theorem dX12_back_19 : decode cX12_back 19 = .ok (.getfield 58, 3) := by decide +kernel
theorem dX12_back_22 : decode cX12_back 22 = .ok (.iload_n 1, 1) := by decide +kernel
theorem dX12_back_23 : decode cX12_back 23 = .ok (.aload_n 0, 1) := by decide +kernel
theorem dX12_back_24 : decode cX12_back 24 = .ok (.getfield 93, 3) := by decide +kernel
theorem dX12_back_27 : decode cX12_back 27 = .ok (.iload_n 1, 1) := by decide +kernel
theorem dX12_back_28 : decode cX12_back 28 = .ok (.iaload, 1) := by decide +kernel
theorem dX12_back_29 : decode cX12_back 29 = .ok (.iastore, 1) := by decide +kernel
theorem dX12_back_30 : decode cX12_back 30 = .ok (.iinc 1 1, 3) := by decide +kernel
theorem dX12_back_33 : decode cX12_back 33 = .ok (.goto (-22), 3) := by decide +kernel
theorem dX12_back_36 : decode cX12_back 36 = .ok (.aload_n 0, 1) := by decide +kernel
theorem dX12_back_37 : decode cX12_back 37 = .ok (.iconst 0, 1) := by decide +kernel
theorem dX12_back_38 : decode cX12_back 38 = .ok (.putfield 264, 3) := by decide +kernel
theorem dX12_back_41 : decode cX12_back 41 = .ok (.aload_n 0, 1) := by decide +kernel
theorem dX12_back_42 : decode cX12_back 42 = .ok (.getfield 58, 3) := by decide +kernel
theorem dX12_back_45 : decode cX12_back 45 = .ok (.bipush 68, 2) := by decide +kernel
theorem dX12_back_47 : decode cX12_back 47 = .ok (.iaload, 1) := by decide +kernel
theorem dX12_back_48 : decode cX12_back 48 = .ok (.ireturn, 1) := by decide +kernel
set_option maxRecDepth 20000 in
theorem ggX12_count_X12_warmthOfAll : GoodIn wsX12_count wsX12_warmthOfAll := goodIn_r _ [15, 6, 24, 25, 26, 27, 28, 29, 30, 31, 32, 33, 34, 35, 36, 37, 38, 39, 40, 41, 42, 43, 44, 45, 46, 47, 48, 49, 50, 51, 52, 53, 54, 55, 56, 57, 58, 59, 60, 61, 62, 63, 64, 65, 66, 67, 68, 69] (by decide +kernel) (by decide +kernel)
set_option maxRecDepth 20000 in
theorem gX12_count_X12_warmthOfAll : GoodIn wsX12_count (wsV RX12 328 RX12 yX12_warmthOfAll wsX12_warmthOfAll) := goodIn_app (goodIn_of _ (by decide +kernel)) ggX12_count_X12_warmthOfAll
set_option maxRecDepth 20000 in
theorem ggX12_count_X12_metMany : GoodIn wsX12_count wsX12_metMany := goodIn_r _ [19, 1, 20, 21, 22, 14, 23, 6, 24, 25, 26, 27, 28, 29, 30, 31, 32, 33, 34, 35, 36, 37, 38, 39, 40, 41, 42, 43, 44, 45, 46, 47, 48, 49, 50, 51, 52, 53, 54, 55, 56, 57, 58, 59, 60, 61, 62, 63, 64, 65, 66, 67, 68, 69] (by decide +kernel) (by decide +kernel)
set_option maxRecDepth 20000 in
theorem gX12_count_X12_metMany : GoodIn wsX12_count (wsV RX12 322 RX12 yX12_metMany wsX12_metMany) := goodIn_app (goodIn_of _ (by decide +kernel)) ggX12_count_X12_metMany
theorem dX12_count_0 : decode cX12_count 0 = .ok (.iload_n 1, 1) := by decide +kernel
theorem dX12_count_1 : decode cX12_count 1 = .ok (.tableswitch 129 0 11 #[63, 68, 73, 78, 83, 88, 96, 101, 106, 111, 116, 124], 63) := by decide +kernel
theorem dX12_count_64 : decode cX12_count 64 = .ok (.aload_n 0, 1) := by decide +kernel
theorem dX12_count_65 : decode cX12_count 65 = .ok (.getfield 252, 3) := by decide +kernel
theorem dX12_count_68 : decode cX12_count 68 = .ok (.ireturn, 1) := by decide +kernel
theorem dX12_count_69 : decode cX12_count 69 = .ok (.aload_n 0, 1) := by decide +kernel
theorem dX12_count_70 : decode cX12_count 70 = .ok (.getfield 255, 3) := by decide +kernel
theorem dX12_count_73 : decode cX12_count 73 = .ok (.ireturn, 1) := by decide +kernel
theorem dX12_count_74 : decode cX12_count 74 = .ok (.aload_n 0, 1) := by decide +kernel
theorem dX12_count_75 : decode cX12_count 75 = .ok (.getfield 274, 3) := by decide +kernel
theorem dX12_count_78 : decode cX12_count 78 = .ok (.ireturn, 1) := by decide +kernel
theorem dX12_count_79 : decode cX12_count 79 = .ok (.aload_n 0, 1) := by decide +kernel
theorem dX12_count_80 : decode cX12_count 80 = .ok (.getfield 103, 3) := by decide +kernel
theorem dX12_count_83 : decode cX12_count 83 = .ok (.ireturn, 1) := by decide +kernel
theorem dX12_count_84 : decode cX12_count 84 = .ok (.aload_n 0, 1) := by decide +kernel
theorem dX12_count_85 : decode cX12_count 85 = .ok (.getfield 64, 3) := by decide +kernel
theorem dX12_count_88 : decode cX12_count 88 = .ok (.ireturn, 1) := by decide +kernel
theorem dX12_count_89 : decode cX12_count 89 = .ok (.aload_n 0, 1) := by decide +kernel
theorem dX12_count_90 : decode cX12_count 90 = .ok (.getfield 58, 3) := by decide +kernel
theorem dX12_count_93 : decode cX12_count 93 = .ok (.bipush 68, 2) := by decide +kernel
theorem dX12_count_95 : decode cX12_count 95 = .ok (.iaload, 1) := by decide +kernel
theorem dX12_count_96 : decode cX12_count 96 = .ok (.ireturn, 1) := by decide +kernel
theorem dX12_count_97 : decode cX12_count 97 = .ok (.aload_n 0, 1) := by decide +kernel
theorem dX12_count_98 : decode cX12_count 98 = .ok (.invokevirtual 328, 3) := by decide +kernel
theorem dX12_count_101 : decode cX12_count 101 = .ok (.ireturn, 1) := by decide +kernel
theorem dX12_count_102 : decode cX12_count 102 = .ok (.aload_n 0, 1) := by decide +kernel
theorem dX12_count_103 : decode cX12_count 103 = .ok (.invokevirtual 322, 3) := by decide +kernel
theorem dX12_count_106 : decode cX12_count 106 = .ok (.ireturn, 1) := by decide +kernel
theorem dX12_count_107 : decode cX12_count 107 = .ok (.aload_n 0, 1) := by decide +kernel
theorem dX12_count_108 : decode cX12_count 108 = .ok (.getfield 68, 3) := by decide +kernel
theorem dX12_count_111 : decode cX12_count 111 = .ok (.ireturn, 1) := by decide +kernel
theorem dX12_count_112 : decode cX12_count 112 = .ok (.aload_n 0, 1) := by decide +kernel
theorem dX12_count_113 : decode cX12_count 113 = .ok (.getfield 261, 3) := by decide +kernel
theorem dX12_count_116 : decode cX12_count 116 = .ok (.ireturn, 1) := by decide +kernel
theorem dX12_count_117 : decode cX12_count 117 = .ok (.aload_n 0, 1) := by decide +kernel
theorem dX12_count_118 : decode cX12_count 118 = .ok (.getfield 58, 3) := by decide +kernel
theorem dX12_count_121 : decode cX12_count 121 = .ok (.bipush 69, 2) := by decide +kernel
theorem dX12_count_123 : decode cX12_count 123 = .ok (.iaload, 1) := by decide +kernel
theorem dX12_count_124 : decode cX12_count 124 = .ok (.ireturn, 1) := by decide +kernel
theorem dX12_count_125 : decode cX12_count 125 = .ok (.aload_n 0, 1) := by decide +kernel
theorem dX12_count_126 : decode cX12_count 126 = .ok (.getfield 264, 3) := by decide +kernel
theorem dX12_count_129 : decode cX12_count 129 = .ok (.ireturn, 1) := by decide +kernel
theorem dX12_count_130 : decode cX12_count 130 = .ok (.ldc_w 363, 3) := by decide +kernel
theorem dX12_count_133 : decode cX12_count 133 = .ok (.ireturn, 1) := by decide +kernel
theorem dJ6_bitCount_0f7a4_0 : decode cJ6_bitCount_0f7a4 0 = .ok (.iload_n 0, 1) := by decide +kernel
theorem dJ6_bitCount_0f7a4_1 : decode cJ6_bitCount_0f7a4 1 = .ok (.iload_n 0, 1) := by decide +kernel
theorem dJ6_bitCount_0f7a4_2 : decode cJ6_bitCount_0f7a4 2 = .ok (.iconst 1, 1) := by decide +kernel
theorem dJ6_bitCount_0f7a4_3 : decode cJ6_bitCount_0f7a4 3 = .ok (.iushr, 1) := by decide +kernel
theorem dJ6_bitCount_0f7a4_4 : decode cJ6_bitCount_0f7a4 4 = .ok (.ldc_w 265, 3) := by decide +kernel
theorem dJ6_bitCount_0f7a4_7 : decode cJ6_bitCount_0f7a4 7 = .ok (.iand, 1) := by decide +kernel
theorem dJ6_bitCount_0f7a4_8 : decode cJ6_bitCount_0f7a4 8 = .ok (.isub, 1) := by decide +kernel
theorem dJ6_bitCount_0f7a4_9 : decode cJ6_bitCount_0f7a4 9 = .ok (.istore_n 0, 1) := by decide +kernel
theorem dJ6_bitCount_0f7a4_10 : decode cJ6_bitCount_0f7a4 10 = .ok (.iload_n 0, 1) := by decide +kernel
theorem dJ6_bitCount_0f7a4_11 : decode cJ6_bitCount_0f7a4 11 = .ok (.ldc_w 266, 3) := by decide +kernel
theorem dJ6_bitCount_0f7a4_14 : decode cJ6_bitCount_0f7a4 14 = .ok (.iand, 1) := by decide +kernel
theorem dJ6_bitCount_0f7a4_15 : decode cJ6_bitCount_0f7a4 15 = .ok (.iload_n 0, 1) := by decide +kernel
theorem dJ6_bitCount_0f7a4_16 : decode cJ6_bitCount_0f7a4 16 = .ok (.iconst 2, 1) := by decide +kernel
theorem dJ6_bitCount_0f7a4_17 : decode cJ6_bitCount_0f7a4 17 = .ok (.iushr, 1) := by decide +kernel
theorem dJ6_bitCount_0f7a4_18 : decode cJ6_bitCount_0f7a4 18 = .ok (.ldc_w 266, 3) := by decide +kernel
theorem dJ6_bitCount_0f7a4_21 : decode cJ6_bitCount_0f7a4 21 = .ok (.iand, 1) := by decide +kernel
theorem dJ6_bitCount_0f7a4_22 : decode cJ6_bitCount_0f7a4 22 = .ok (.iadd, 1) := by decide +kernel
theorem dJ6_bitCount_0f7a4_23 : decode cJ6_bitCount_0f7a4 23 = .ok (.istore_n 0, 1) := by decide +kernel
theorem dJ6_bitCount_0f7a4_24 : decode cJ6_bitCount_0f7a4 24 = .ok (.iload_n 0, 1) := by decide +kernel
theorem dJ6_bitCount_0f7a4_25 : decode cJ6_bitCount_0f7a4 25 = .ok (.iload_n 0, 1) := by decide +kernel
theorem dJ6_bitCount_0f7a4_26 : decode cJ6_bitCount_0f7a4 26 = .ok (.iconst 4, 1) := by decide +kernel
theorem dJ6_bitCount_0f7a4_27 : decode cJ6_bitCount_0f7a4 27 = .ok (.iushr, 1) := by decide +kernel
theorem dJ6_bitCount_0f7a4_28 : decode cJ6_bitCount_0f7a4 28 = .ok (.iadd, 1) := by decide +kernel
theorem dJ6_bitCount_0f7a4_29 : decode cJ6_bitCount_0f7a4 29 = .ok (.ldc_w 267, 3) := by decide +kernel
theorem dJ6_bitCount_0f7a4_32 : decode cJ6_bitCount_0f7a4 32 = .ok (.iand, 1) := by decide +kernel
theorem dJ6_bitCount_0f7a4_33 : decode cJ6_bitCount_0f7a4 33 = .ok (.istore_n 0, 1) := by decide +kernel
theorem dJ6_bitCount_0f7a4_34 : decode cJ6_bitCount_0f7a4 34 = .ok (.iload_n 0, 1) := by decide +kernel
theorem dJ6_bitCount_0f7a4_35 : decode cJ6_bitCount_0f7a4 35 = .ok (.iload_n 0, 1) := by decide +kernel
theorem dJ6_bitCount_0f7a4_36 : decode cJ6_bitCount_0f7a4 36 = .ok (.bipush 8, 2) := by decide +kernel
theorem dJ6_bitCount_0f7a4_38 : decode cJ6_bitCount_0f7a4 38 = .ok (.iushr, 1) := by decide +kernel
theorem dJ6_bitCount_0f7a4_39 : decode cJ6_bitCount_0f7a4 39 = .ok (.iadd, 1) := by decide +kernel
theorem dJ6_bitCount_0f7a4_40 : decode cJ6_bitCount_0f7a4 40 = .ok (.istore_n 0, 1) := by decide +kernel
theorem dJ6_bitCount_0f7a4_41 : decode cJ6_bitCount_0f7a4 41 = .ok (.iload_n 0, 1) := by decide +kernel
theorem dJ6_bitCount_0f7a4_42 : decode cJ6_bitCount_0f7a4 42 = .ok (.iload_n 0, 1) := by decide +kernel
theorem dJ6_bitCount_0f7a4_43 : decode cJ6_bitCount_0f7a4 43 = .ok (.bipush 16, 2) := by decide +kernel
theorem dJ6_bitCount_0f7a4_45 : decode cJ6_bitCount_0f7a4 45 = .ok (.iushr, 1) := by decide +kernel
theorem dJ6_bitCount_0f7a4_46 : decode cJ6_bitCount_0f7a4 46 = .ok (.iadd, 1) := by decide +kernel
theorem dJ6_bitCount_0f7a4_47 : decode cJ6_bitCount_0f7a4 47 = .ok (.istore_n 0, 1) := by decide +kernel
theorem dJ6_bitCount_0f7a4_48 : decode cJ6_bitCount_0f7a4 48 = .ok (.iload_n 0, 1) := by decide +kernel
theorem dJ6_bitCount_0f7a4_49 : decode cJ6_bitCount_0f7a4 49 = .ok (.bipush 63, 2) := by decide +kernel
theorem dJ6_bitCount_0f7a4_51 : decode cJ6_bitCount_0f7a4 51 = .ok (.iand, 1) := by decide +kernel
theorem dJ6_bitCount_0f7a4_52 : decode cJ6_bitCount_0f7a4 52 = .ok (.ireturn, 1) := by decide +kernel
theorem dJ9_abs_0f7a4_0 : decode cJ9_abs_0f7a4 0 = .ok (.iload_n 0, 1) := by decide +kernel
theorem dJ9_abs_0f7a4_1 : decode cJ9_abs_0f7a4 1 = .ok (.ifCond .ge 8, 3) := by decide +kernel
theorem dJ9_abs_0f7a4_4 : decode cJ9_abs_0f7a4 4 = .ok (.iload_n 0, 1) := by decide +kernel
theorem dJ9_abs_0f7a4_5 : decode cJ9_abs_0f7a4 5 = .ok (.ineg, 1) := by decide +kernel
theorem dJ9_abs_0f7a4_6 : decode cJ9_abs_0f7a4 6 = .ok (.goto 4, 3) := by decide +kernel
theorem dJ9_abs_0f7a4_9 : decode cJ9_abs_0f7a4 9 = .ok (.iload_n 0, 1) := by decide +kernel
theorem dJ9_abs_0f7a4_10 : decode cJ9_abs_0f7a4 10 = .ok (.ireturn, 1) := by decide +kernel
theorem dJ9_max_7cf53_0 : decode cJ9_max_7cf53 0 = .ok (.iload_n 0, 1) := by decide +kernel
theorem dJ9_max_7cf53_1 : decode cJ9_max_7cf53 1 = .ok (.iload_n 1, 1) := by decide +kernel
theorem dJ9_max_7cf53_2 : decode cJ9_max_7cf53 2 = .ok (.if_icmp .lt 7, 3) := by decide +kernel
theorem dJ9_max_7cf53_5 : decode cJ9_max_7cf53 5 = .ok (.iload_n 0, 1) := by decide +kernel
theorem dJ9_max_7cf53_6 : decode cJ9_max_7cf53 6 = .ok (.goto 4, 3) := by decide +kernel
theorem dJ9_max_7cf53_9 : decode cJ9_max_7cf53 9 = .ok (.iload_n 1, 1) := by decide +kernel
theorem dJ9_max_7cf53_10 : decode cJ9_max_7cf53 10 = .ok (.ireturn, 1) := by decide +kernel
theorem dJ9_max_f86c9_0 : decode cJ9_max_f86c9 0 = .ok (.lload_n 0, 1) := by decide +kernel
theorem dJ9_max_f86c9_1 : decode cJ9_max_f86c9 1 = .ok (.lload_n 2, 1) := by decide +kernel
theorem dJ9_max_f86c9_2 : decode cJ9_max_f86c9 2 = .ok (.lcmp, 1) := by decide +kernel
theorem dJ9_max_f86c9_3 : decode cJ9_max_f86c9 3 = .ok (.ifCond .lt 7, 3) := by decide +kernel
theorem dJ9_max_f86c9_6 : decode cJ9_max_f86c9 6 = .ok (.lload_n 0, 1) := by decide +kernel
theorem dJ9_max_f86c9_7 : decode cJ9_max_f86c9 7 = .ok (.goto 4, 3) := by decide +kernel
theorem dJ9_max_f86c9_10 : decode cJ9_max_f86c9 10 = .ok (.lload_n 2, 1) := by decide +kernel
theorem dJ9_max_f86c9_11 : decode cJ9_max_f86c9 11 = .ok (.lreturn, 1) := by decide +kernel
theorem dJ9_min_7cf53_0 : decode cJ9_min_7cf53 0 = .ok (.iload_n 0, 1) := by decide +kernel
theorem dJ9_min_7cf53_1 : decode cJ9_min_7cf53 1 = .ok (.iload_n 1, 1) := by decide +kernel
theorem dJ9_min_7cf53_2 : decode cJ9_min_7cf53 2 = .ok (.if_icmp .gt 7, 3) := by decide +kernel
theorem dJ9_min_7cf53_5 : decode cJ9_min_7cf53 5 = .ok (.iload_n 0, 1) := by decide +kernel
theorem dJ9_min_7cf53_6 : decode cJ9_min_7cf53 6 = .ok (.goto 4, 3) := by decide +kernel
theorem dJ9_min_7cf53_9 : decode cJ9_min_7cf53 9 = .ok (.iload_n 1, 1) := by decide +kernel
theorem dJ9_min_7cf53_10 : decode cJ9_min_7cf53 10 = .ok (.ireturn, 1) := by decide +kernel
theorem dJ9_min_f86c9_0 : decode cJ9_min_f86c9 0 = .ok (.lload_n 0, 1) := by decide +kernel
theorem dJ9_min_f86c9_1 : decode cJ9_min_f86c9 1 = .ok (.lload_n 2, 1) := by decide +kernel
theorem dJ9_min_f86c9_2 : decode cJ9_min_f86c9 2 = .ok (.lcmp, 1) := by decide +kernel
theorem dJ9_min_f86c9_3 : decode cJ9_min_f86c9 3 = .ok (.ifCond .gt 7, 3) := by decide +kernel
theorem dJ9_min_f86c9_6 : decode cJ9_min_f86c9 6 = .ok (.lload_n 0, 1) := by decide +kernel
theorem dJ9_min_f86c9_7 : decode cJ9_min_f86c9 7 = .ok (.goto 4, 3) := by decide +kernel
theorem dJ9_min_f86c9_10 : decode cJ9_min_f86c9 10 = .ok (.lload_n 2, 1) := by decide +kernel
theorem dJ9_min_f86c9_11 : decode cJ9_min_f86c9 11 = .ok (.lreturn, 1) := by decide +kernel
set_option maxRecDepth 20000 in
theorem ggL_glove_X11_glove : GoodIn wsL_glove wsX11_glove := goodIn_ca (goodIn_r _ [6, 7, 8, 9, 10, 11, 12, 13, 14, 15, 16, 17, 18, 19, 20, 21, 22, 23, 24, 25, 26, 27, 28, 29, 30, 31, 32, 33, 34, 35, 36, 37, 38, 39, 40, 41, 42, 43, 44, 45, 46, 47, 48, 49, 50, 51, 52, 53, 54, 55, 56, 57, 58, 59, 60, 61, 62, 63, 64, 65, 66, 67] (by decide +kernel) (by decide +kernel)) (goodIn_sub (fun _ h => List.mem_cons_of_mem _ (List.mem_append_right _ h)) (by decide +kernel))
set_option maxRecDepth 20000 in
theorem gL_glove_X11_glove : GoodIn wsL_glove (wsV RL 7 RX11 yX11_glove wsX11_glove) := goodIn_app (goodIn_of _ (by decide +kernel)) ggL_glove_X11_glove
theorem dL_glove_0 : decode cL_glove 0 = .ok (.aload_n 3, 1) := by decide +kernel
theorem dL_glove_1 : decode cL_glove 1 = .ok (.iconst 0, 1) := by decide +kernel
theorem dL_glove_2 : decode cL_glove 2 = .ok (.aload_n 0, 1) := by decide +kernel
theorem dL_glove_3 : decode cL_glove 3 = .ok (.iload_n 1, 1) := by decide +kernel
theorem dL_glove_4 : decode cL_glove 4 = .ok (.iload_n 2, 1) := by decide +kernel
theorem dL_glove_5 : decode cL_glove 5 = .ok (.invokevirtual 7, 3) := by decide +kernel
theorem dL_glove_8 : decode cL_glove 8 = .ok (.i2l, 1) := by decide +kernel
theorem dL_glove_9 : decode cL_glove 9 = .ok (.lastore, 1) := by decide +kernel
theorem dL_glove_10 : decode cL_glove 10 = .ok (.goto 7, 3) := by decide +kernel
theorem dL_glove_13 : decode cL_glove 13 = .ok (.astore 4, 2) := by decide +kernel
theorem dL_glove_15 : decode cL_glove 15 = .ok (.iconst 1, 1) := by decide +kernel
theorem dL_glove_16 : decode cL_glove 16 = .ok (.ireturn, 1) := by decide +kernel
theorem dL_glove_17 : decode cL_glove 17 = .ok (.iconst 0, 1) := by decide +kernel
theorem dL_glove_18 : decode cL_glove 18 = .ok (.ireturn, 1) := by decide +kernel
set_option maxRecDepth 20000 in
theorem ggL_law_X11_init : GoodIn wsL_law wsX11_init := goodIn_r _ [10, 11, 12, 13, 14, 15, 16, 17, 18, 19, 20, 21, 22, 23, 24, 25, 26, 27, 28, 29, 30, 31, 32, 33, 34, 35, 36, 37, 38, 39, 40, 41, 42, 43, 44, 45, 46, 47, 48, 49, 50, 51, 52, 53, 54, 55, 56, 57, 58, 59, 60, 61, 62, 63, 64, 65, 66, 67, 68, 69, 70, 71, 72, 73, 74, 75, 76, 77, 78, 79, 80, 81, 82, 83, 84, 85, 86, 87, 88, 89, 90, 91, 92, 93, 94, 95, 96, 97, 98, 99, 100, 101, 102, 103, 104, 105, 106, 107, 108, 109, 110, 111, 112, 113, 114, 115, 116, 117, 118, 119, 120, 121, 122, 123, 124, 125, 126, 127, 128, 129, 130, 131, 132, 133, 134, 135, 136, 137, 138, 1482, 1483, 1484, 1418, 1419, 1420, 1421, 1422, 1423, 1424, 1425, 1426, 1427, 1428, 1429, 1430, 1431, 1432, 1433, 1434, 1435, 1485, 1486, 1487, 1488, 1489, 1490, 1491, 1492, 1493, 1494, 1495, 1496, 1497, 1498, 1499, 1500, 1501, 1502, 1503, 1504, 1505, 1506, 1507, 1508, 1509, 1510, 1511, 1512, 1513, 1514, 1515, 1516, 1517, 1518, 1519, 1520, 1521, 1522, 1523, 1524, 1525, 1526, 1527, 1528, 1529, 1530, 1531, 1532, 1533] (by decide +kernel) (by decide +kernel)
set_option maxRecDepth 20000 in
theorem gL_law_X11_init : GoodIn wsL_law (wsX11_init) := ggL_law_X11_init
set_option maxRecDepth 20000 in
theorem ggL_law_X12_init : GoodIn wsL_law wsX12_init := goodIn_r _ [141, 142, 12, 13, 61, 143, 144, 145, 146, 147, 148, 149, 150, 151, 152, 153, 154, 155, 156, 157, 158, 159, 160, 161, 162, 163, 164, 165, 166, 167, 168, 125, 169, 170, 1436, 1437, 1438, 1439, 1440, 1441, 1442, 1443, 1444, 1445, 1446, 1447, 1448, 1449, 1450, 1451, 1452, 1453, 1454, 1455, 1456, 1457, 1458, 1459, 1460, 1461, 1462, 1463, 1464, 1465, 1466, 1467, 1468, 1469, 1470, 1471, 1472, 1473, 1474, 1475, 1476, 1477, 1478, 1479, 1480, 1481] (by decide +kernel) (by decide +kernel)
set_option maxRecDepth 20000 in
theorem gL_law_X12_init : GoodIn wsL_law (wsX12_init) := ggL_law_X12_init
set_option maxRecDepth 20000 in
theorem ggL_law_X11_feed : GoodIn wsL_law wsX11_feed := goodIn_r _ [174, 17, 175, 176, 177, 16, 178, 179, 180, 181, 182, 183, 69, 1418, 1419, 1420, 1421, 1422, 1423, 1424, 1425, 1426, 1427, 1428, 1429, 1430, 1431, 1432, 1433, 1434, 1435, 1482, 1483, 1484] (by decide +kernel) (by decide +kernel)
set_option maxRecDepth 20000 in
theorem gL_law_X11_feed : GoodIn wsL_law (wsV RL 19 RX11 yX11_feed wsX11_feed) := goodIn_app (goodIn_of _ (by decide +kernel)) ggL_law_X11_feed
set_option maxRecDepth 20000 in
theorem ggL_law_X12_feed : GoodIn wsL_law wsX12_feed := goodIn_r _ [187, 188, 143, 189, 190, 5, 191, 1436, 1437, 1438, 1439, 1440, 1441, 1442, 1443, 1444, 1445, 1446, 1447, 1448, 1449, 1450, 1451, 1452, 1453, 1454, 1455, 1456, 1457, 1458, 1459, 1460, 1461, 1462, 1463, 1464, 1465, 1466, 1467, 1468, 1469, 1470, 1471, 1472, 1473, 1474, 1475, 1476, 1477, 1478, 1479, 1480, 1481] (by decide +kernel) (by decide +kernel)
set_option maxRecDepth 20000 in
theorem gL_law_X12_feed : GoodIn wsL_law (wsV RL 23 RX12 yX12_feed wsX12_feed) := goodIn_app (goodIn_of _ (by decide +kernel)) ggL_law_X12_feed
set_option maxRecDepth 20000 in
theorem ggL_law_X11_end : GoodIn wsL_law wsX11_end := goodIn_r _ [195, 17, 175, 1418, 1419, 1420, 1421, 1422, 1423, 1424, 1425, 1426, 1427, 1428, 1429, 1430, 1431, 1432, 1433, 1434, 1435, 1482, 1483, 1484] (by decide +kernel) (by decide +kernel)
set_option maxRecDepth 20000 in
theorem gL_law_X11_end : GoodIn wsL_law (wsV RL 24 RX11 yX11_end wsX11_end) := goodIn_app (goodIn_of _ (by decide +kernel)) ggL_law_X11_end
set_option maxRecDepth 20000 in
theorem ggL_law_X12_end : GoodIn wsL_law wsX12_end := goodIn_r _ [199, 188, 1436, 1437, 1438, 1439, 1440, 1441, 1442, 1443, 1444, 1445, 1446, 1447, 1448, 1449, 1450, 1451, 1452, 1453, 1454, 1455, 1456, 1457, 1458, 1459, 1460, 1461, 1462, 1463, 1464, 1465, 1466, 1467, 1468, 1469, 1470, 1471, 1472, 1473, 1474, 1475, 1476, 1477, 1478, 1479, 1480, 1481] (by decide +kernel) (by decide +kernel)
set_option maxRecDepth 20000 in
theorem gL_law_X12_end : GoodIn wsL_law (wsV RL 28 RX12 yX12_end wsX12_end) := goodIn_app (goodIn_of _ (by decide +kernel)) ggL_law_X12_end
set_option maxRecDepth 20000 in
theorem ggL_law_X11_fault : GoodIn wsL_law wsX11_fault := goodIn_r _ [203, 21, 25, 17, 204, 205, 206, 207, 20, 208, 77, 209, 210, 75, 211, 212, 213, 214, 215, 216, 217, 218, 219, 220, 221, 222, 16, 223, 224, 183, 69, 225, 226, 227, 228, 229, 230, 231, 232, 233, 234, 235, 76, 236, 237, 238, 239, 240, 241, 242, 243, 244, 245, 246, 247, 248, 249, 250, 251, 252, 253, 254, 255, 256, 257, 258, 259, 260, 261, 262, 263, 264, 265, 266, 267, 268, 269, 270, 28, 271, 272, 81, 273, 274, 275, 276, 277, 278, 279, 24, 280, 92, 281, 282, 283, 284, 285, 286, 287, 288, 289, 290, 291, 292, 293, 294, 295, 296, 297, 298, 299, 300, 301, 302, 303, 304, 305, 306, 91, 307, 308, 309, 310, 311, 312, 313, 314, 315, 316, 317, 318, 32, 319, 100, 320, 321, 322, 323, 324, 325, 326, 327, 328, 329, 330, 331, 1418, 1419, 1420, 1421, 1422, 1423, 1424, 1425, 1426, 1427, 1428, 1429, 1430, 1431, 1432, 1433, 1434, 1435, 1482, 1483, 1484, 1485, 1486, 1487, 1488, 1492, 1493, 1494, 1495, 1496, 1497, 1498, 1499, 1500, 1501, 1489, 1490, 1491] (by decide +kernel) (by decide +kernel)
set_option maxRecDepth 20000 in
theorem gL_law_X11_fault : GoodIn wsL_law (wsV RL 29 RX11 yX11_fault wsX11_fault) := goodIn_app (goodIn_of _ (by decide +kernel)) ggL_law_X11_fault
set_option maxRecDepth 20000 in
theorem ggL_law_X12_fault : GoodIn wsL_law wsX12_fault := goodIn_r _ [335, 336, 337, 338, 5, 339, 340, 341, 342, 343, 153, 154, 155, 344, 345, 346, 347, 348, 349, 350, 351, 352, 353, 354, 188, 143, 355, 356, 357, 358, 359, 360, 361, 362, 363, 364, 365, 366, 367, 368, 369, 370, 371, 372, 373, 374, 375, 376, 377, 378, 379, 380, 381, 382, 383, 384, 385, 386, 387, 388, 389, 390, 391, 392, 393, 394, 395, 146, 147, 396, 397, 398, 399, 148, 149, 150, 400, 401, 402, 403, 404, 405, 406, 407, 408, 409, 410, 411, 412, 413, 414, 415, 416, 417, 144, 145, 418, 419, 420, 421, 422, 423, 424, 425, 426, 427, 428, 429, 430, 431, 432, 433, 434, 435, 436, 437, 438, 439, 440, 441, 442, 443, 444, 445, 446, 447, 448, 449, 450, 451, 452, 453, 454, 455, 456, 457, 1436, 1437, 1438, 1439, 1440, 1441, 1442, 1443, 1444, 1445, 1446, 1447, 1448, 1449, 1450, 1451, 1452, 1453, 1454, 1455, 1456, 1457, 1458, 1459, 1460, 1461, 1462, 1463, 1464, 1465, 1466, 1467, 1468, 1469, 1470, 1471, 1472, 1473, 1474, 1475, 1476, 1477, 1478, 1479, 1480, 1481] (by decide +kernel) (by decide +kernel)
set_option maxRecDepth 20000 in
theorem gL_law_X12_fault : GoodIn wsL_law (wsV RL 33 RX12 yX12_fault wsX12_fault) := goodIn_app (goodIn_of _ (by decide +kernel)) ggL_law_X12_fault
set_option maxRecDepth 20000 in
theorem ggL_law_X11_text : GoodIn wsL_law wsX11_text := goodIn_r _ [461, 462, 463, 464, 2, 465, 21, 17, 175, 29, 466, 37, 46, 52, 467, 63, 468, 205, 206, 207, 20, 208, 77, 209, 210, 75, 211, 212, 213, 214, 215, 216, 217, 218, 219, 220, 221, 222, 16, 223, 224, 183, 69, 225, 226, 227, 228, 229, 230, 231, 232, 233, 234, 235, 76, 236, 237, 238, 239, 240, 241, 242, 243, 244, 245, 246, 247, 248, 249, 250, 251, 252, 253, 254, 255, 256, 257, 258, 259, 260, 261, 262, 263, 264, 265, 266, 267, 268, 269, 270, 28, 271, 272, 81, 273, 274, 275, 276, 469, 470, 471, 472, 473, 474, 475, 476, 82, 83, 84, 85, 86, 477, 478, 479, 36, 480, 107, 108, 481, 482, 483, 484, 485, 486, 487, 45, 488, 489, 490, 491, 492, 493, 33, 25, 494, 495, 496, 497, 498, 499, 32, 500, 501, 277, 278, 279, 24, 280, 92, 281, 282, 283, 284, 285, 286, 287, 288, 289, 290, 291, 292, 293, 294, 295, 296, 297, 298, 299, 300, 301, 302, 303, 304, 305, 306, 91, 307, 308, 309, 310, 311, 312, 313, 314, 315, 316, 317, 318, 319, 100, 320, 321, 322, 323, 324, 325, 326, 327, 328, 329, 330, 331, 502, 503, 504, 505, 98, 506, 99, 507, 1418, 1419, 1420, 1421, 1422, 1423, 1424, 1425, 1426, 1427, 1428, 1429, 1430, 1431, 1432, 1433, 1434, 1435, 1482, 1483, 1484, 1485, 1486, 1487, 1488, 1515, 1516, 1517, 1518, 1519, 1520, 1521, 1492, 1493, 1494, 1495, 1496, 1497, 1498, 1499, 1500, 1501, 1508, 1509, 1510, 1512, 1513, 1514, 1489, 1490, 1491, 1502, 1503, 1504, 1505, 1506, 1507] (by decide +kernel) (by decide +kernel)
set_option maxRecDepth 20000 in
theorem gL_law_X11_text : GoodIn wsL_law (wsV RL 34 RX11 yX11_text wsX11_text) := goodIn_app (goodIn_of _ (by decide +kernel)) ggL_law_X11_text
set_option maxRecDepth 20000 in
theorem ggL_law_X12_text : GoodIn wsL_law wsX12_text := goodIn_r _ [511, 188, 512, 336, 337, 338, 5, 339, 340, 341, 342, 343, 153, 154, 155, 344, 345, 346, 347, 348, 349, 350, 351, 352, 353, 354, 143, 355, 356, 357, 358, 359, 360, 361, 362, 363, 364, 365, 366, 367, 368, 369, 370, 371, 372, 373, 374, 375, 376, 377, 378, 379, 380, 381, 382, 383, 384, 385, 513, 514, 515, 516, 517, 518, 156, 157, 158, 159, 519, 520, 521, 522, 523, 524, 525, 386, 387, 388, 389, 390, 391, 392, 393, 394, 395, 146, 147, 396, 397, 398, 399, 148, 149, 150, 400, 401, 402, 403, 404, 405, 406, 407, 408, 409, 410, 411, 412, 413, 414, 415, 416, 417, 144, 145, 418, 419, 420, 421, 422, 423, 424, 425, 426, 427, 428, 429, 430, 431, 432, 433, 434, 435, 436, 437, 438, 439, 440, 441, 442, 443, 444, 445, 446, 447, 448, 449, 450, 451, 452, 453, 454, 455, 456, 457, 1436, 1437, 1438, 1439, 1440, 1441, 1442, 1443, 1444, 1445, 1446, 1447, 1448, 1449, 1450, 1451, 1452, 1453, 1454, 1455, 1456, 1457, 1458, 1459, 1460, 1461, 1462, 1463, 1464, 1465, 1466, 1467, 1468, 1469, 1470, 1471, 1472, 1473, 1474, 1475, 1476, 1477, 1478, 1479, 1480, 1481] (by decide +kernel) (by decide +kernel)
set_option maxRecDepth 20000 in
theorem gL_law_X12_text : GoodIn wsL_law (wsV RL 37 RX12 yX12_text wsX12_text) := goodIn_app (goodIn_of _ (by decide +kernel)) ggL_law_X12_text
set_option maxRecDepth 20000 in
theorem ggL_law_X11_rule : GoodIn wsL_law wsX11_rule := goodIn_r _ [529, 37, 530, 531, 532, 2, 533, 29, 468, 534, 535, 536, 36, 537, 107, 538, 539, 540, 541, 1418, 1419, 1420, 1421, 1422, 1423, 1424, 1425, 1426, 1427, 1428, 1429, 1430, 1431, 1432, 1433, 1434, 1435, 1492, 1493, 1494, 1495, 1496, 1497, 1498, 1499, 1500, 1501, 1508, 1509, 1510] (by decide +kernel) (by decide +kernel)
set_option maxRecDepth 20000 in
theorem gL_law_X11_rule : GoodIn wsL_law (wsV RL 38 RX11 yX11_rule wsX11_rule) := goodIn_app (goodIn_of _ (by decide +kernel)) ggL_law_X11_rule
set_option maxRecDepth 20000 in
theorem ggL_law_X12_rule : GoodIn wsL_law wsX12_rule := goodIn_r _ [545, 517, 159, 379, 380, 5, 381, 1436, 1437, 1438, 1439, 1440, 1441, 1442, 1443, 1444, 1445, 1446, 1447, 1448, 1449, 1450, 1451, 1452, 1453, 1454, 1455, 1456, 1457, 1458, 1459, 1460, 1461, 1462, 1463, 1464, 1465, 1466, 1467, 1468, 1469, 1470, 1471, 1472, 1473, 1474, 1475, 1476, 1477, 1478, 1479, 1480, 1481] (by decide +kernel) (by decide +kernel)
set_option maxRecDepth 20000 in
theorem gL_law_X12_rule : GoodIn wsL_law (wsV RL 41 RX12 yX12_rule wsX12_rule) := goodIn_app (goodIn_of _ (by decide +kernel)) ggL_law_X12_rule
set_option maxRecDepth 20000 in
theorem ggL_law_L_glove : GoodIn wsL_law wsL_glove := goodIn_ca (goodIn_r _ [549, 550, 551, 552, 553, 2, 554, 555, 556, 29, 557, 37, 558, 559, 560, 561, 28, 562, 272, 563, 564, 565, 36, 566, 107, 567, 568, 569, 570, 571, 572, 573, 574, 575, 576, 577, 578, 1418, 1419, 1420, 1421, 1422, 1423, 1424, 1425, 1426, 1427, 1428, 1429, 1430, 1431, 1432, 1433, 1434, 1435, 1492, 1493, 1494, 1495, 1496, 1497, 1498, 1499, 1500, 1501, 1508, 1509, 1510] (by decide +kernel) (by decide +kernel)) (goodIn_sub (fun _ h => List.mem_append_right _ h) (by decide +kernel))
set_option maxRecDepth 20000 in
theorem gL_law_L_glove : GoodIn wsL_law (va_wsS RL 42 yL_glove wsL_glove) := goodIn_app (goodIn_of _ (by decide +kernel)) ggL_law_L_glove
set_option maxRecDepth 20000 in
theorem ggL_law_X12_glove : GoodIn wsL_law wsX12_glove := goodIn_r _ [582, 583, 159, 584, 585, 586, 5, 587, 517, 379, 380, 381, 588, 589, 590, 591, 522, 523, 524, 525, 157, 1436, 1437, 1438, 1439, 1440, 1441, 1442, 1443, 1444, 1445, 1446, 1447, 1448, 1449, 1450, 1451, 1452, 1453, 1454, 1455, 1456, 1457, 1458, 1459, 1460, 1461, 1462, 1463, 1464, 1465, 1466, 1467, 1468, 1469, 1470, 1471, 1472, 1473, 1474, 1475, 1476, 1477, 1478, 1479, 1480, 1481] (by decide +kernel) (by decide +kernel)
set_option maxRecDepth 20000 in
theorem gL_law_X12_glove : GoodIn wsL_law (wsV RL 47 RX12 yX12_glove wsX12_glove) := goodIn_app (goodIn_of _ (by decide +kernel)) ggL_law_X12_glove
set_option maxRecDepth 20000 in
theorem ggL_law_X12_thrown : GoodIn wsL_law wsX12_thrown := goodIn_r _ [595, 583, 1436, 1437, 1438, 1439, 1440, 1441, 1442, 1443, 1444, 1445, 1446, 1447, 1448, 1449, 1450, 1451, 1452, 1453, 1454, 1455, 1456, 1457, 1458, 1459, 1460, 1461, 1462, 1463, 1464, 1465, 1466, 1467, 1468, 1469, 1470, 1471, 1472, 1473, 1474, 1475, 1476, 1477, 1478, 1479, 1480, 1481] (by decide +kernel) (by decide +kernel)
set_option maxRecDepth 20000 in
theorem gL_law_X12_thrown : GoodIn wsL_law (wsV RL 48 RX12 yX12_thrown wsX12_thrown) := goodIn_app (goodIn_of _ (by decide +kernel)) ggL_law_X12_thrown
set_option maxRecDepth 20000 in
theorem ggL_law_X11_matter : GoodIn wsL_law wsX11_matter := goodIn_r _ [599, 29, 37, 600, 601, 602, 603, 604, 28, 605, 473, 606, 607, 608, 36, 609, 107, 1418, 1419, 1420, 1421, 1422, 1423, 1424, 1425, 1426, 1427, 1428, 1429, 1430, 1431, 1432, 1433, 1434, 1435, 1492, 1493, 1494, 1495, 1496, 1497, 1498, 1499, 1500, 1501, 1508, 1509, 1510] (by decide +kernel) (by decide +kernel)
set_option maxRecDepth 20000 in
theorem gL_law_X11_matter : GoodIn wsL_law (wsV RL 52 RX11 yX11_matter wsX11_matter) := goodIn_app (goodIn_of _ (by decide +kernel)) ggL_law_X11_matter
set_option maxRecDepth 20000 in
theorem ggL_law_X12_matter : GoodIn wsL_law wsX12_matter := goodIn_r _ [613, 159, 158, 614, 615, 616, 5, 617, 518, 379, 380, 381, 1436, 1437, 1438, 1439, 1440, 1441, 1442, 1443, 1444, 1445, 1446, 1447, 1448, 1449, 1450, 1451, 1452, 1453, 1454, 1455, 1456, 1457, 1458, 1459, 1460, 1461, 1462, 1463, 1464, 1465, 1466, 1467, 1468, 1469, 1470, 1471, 1472, 1473, 1474, 1475, 1476, 1477, 1478, 1479, 1480, 1481] (by decide +kernel) (by decide +kernel)
set_option maxRecDepth 20000 in
theorem gL_law_X12_matter : GoodIn wsL_law (wsV RL 55 RX12 yX12_matter wsX12_matter) := goodIn_app (goodIn_of _ (by decide +kernel)) ggL_law_X12_matter
set_option maxRecDepth 20000 in
theorem ggL_law_X11_warmth : GoodIn wsL_law wsX11_warmth := goodIn_r _ [621, 29, 37, 622, 623, 624, 28, 625, 81, 626, 560, 561, 562, 272, 627, 628, 629, 36, 630, 107, 631, 632, 633, 1418, 1419, 1420, 1421, 1422, 1423, 1424, 1425, 1426, 1427, 1428, 1429, 1430, 1431, 1432, 1433, 1434, 1435, 1492, 1493, 1494, 1495, 1496, 1497, 1498, 1499, 1500, 1501, 1508, 1509, 1510] (by decide +kernel) (by decide +kernel)
set_option maxRecDepth 20000 in
theorem gL_law_X11_warmth : GoodIn wsL_law (wsV RL 56 RX11 yX11_warmth wsX11_warmth) := goodIn_app (goodIn_of _ (by decide +kernel)) ggL_law_X11_warmth
set_option maxRecDepth 20000 in
theorem ggL_law_X12_warmth : GoodIn wsL_law wsX12_warmth := goodIn_r _ [637, 159, 638, 639, 640, 5, 641, 584, 585, 586, 587, 517, 379, 380, 381, 522, 523, 524, 525, 157, 642, 643, 644, 645, 646, 647, 648, 649, 650, 651, 1436, 1437, 1438, 1439, 1440, 1441, 1442, 1443, 1444, 1445, 1446, 1447, 1448, 1449, 1450, 1451, 1452, 1453, 1454, 1455, 1456, 1457, 1458, 1459, 1460, 1461, 1462, 1463, 1464, 1465, 1466, 1467, 1468, 1469, 1470, 1471, 1472, 1473, 1474, 1475, 1476, 1477, 1478, 1479, 1480, 1481] (by decide +kernel) (by decide +kernel)
set_option maxRecDepth 20000 in
theorem gL_law_X12_warmth : GoodIn wsL_law (wsV RL 59 RX12 yX12_warmth wsX12_warmth) := goodIn_app (goodIn_of _ (by decide +kernel)) ggL_law_X12_warmth
set_option maxRecDepth 20000 in
theorem ggL_law_X11_law : GoodIn wsL_law wsX11_law := goodIn_r _ [655, 33, 496, 656, 1418, 1419, 1420, 1421, 1422, 1423, 1424, 1425, 1426, 1427, 1428, 1429, 1430, 1431, 1432, 1433, 1434, 1435, 1502, 1503, 1504, 1505, 1506, 1507] (by decide +kernel) (by decide +kernel)
set_option maxRecDepth 20000 in
theorem gL_law_X11_law : GoodIn wsL_law (wsV RL 60 RX11 yX11_law wsX11_law) := goodIn_app (goodIn_of _ (by decide +kernel)) ggL_law_X11_law
set_option maxRecDepth 20000 in
theorem ggL_law_X12_law : GoodIn wsL_law wsX12_law := goodIn_r _ [660, 512, 161, 379, 380, 5, 381, 1436, 1437, 1438, 1439, 1440, 1441, 1442, 1443, 1444, 1445, 1446, 1447, 1448, 1449, 1450, 1451, 1452, 1453, 1454, 1455, 1456, 1457, 1458, 1459, 1460, 1461, 1462, 1463, 1464, 1465, 1466, 1467, 1468, 1469, 1470, 1471, 1472, 1473, 1474, 1475, 1476, 1477, 1478, 1479, 1480, 1481] (by decide +kernel) (by decide +kernel)
set_option maxRecDepth 20000 in
theorem gL_law_X12_law : GoodIn wsL_law (wsV RL 63 RX12 yX12_law wsX12_law) := goodIn_app (goodIn_of _ (by decide +kernel)) ggL_law_X12_law
set_option maxRecDepth 20000 in
theorem ggL_law_X11_meets : GoodIn wsL_law wsX11_meets := goodIn_r _ [664, 29, 37, 46, 559, 560, 561, 28, 562, 272, 665, 666, 667, 2, 668, 62, 622, 623, 624, 625, 81, 626, 571, 572, 573, 36, 574, 107, 538, 539, 540, 541, 669, 670, 671, 45, 672, 673, 117, 674, 675, 237, 238, 239, 489, 676, 646, 647, 648, 677, 678, 679, 680, 681, 682, 683, 684, 631, 632, 633, 685, 628, 629, 630, 686, 687, 688, 689, 690, 691, 650, 651, 692, 693, 694, 695, 696, 697, 698, 699, 109, 108, 700, 564, 565, 566, 701, 568, 569, 570, 702, 703, 704, 705, 84, 706, 535, 536, 537, 707, 708, 709, 32, 710, 96, 101, 98, 99, 711, 712, 713, 714, 715, 716, 102, 717, 718, 719, 720, 721, 722, 723, 724, 725, 726, 727, 576, 577, 578, 728, 729, 730, 731, 732, 733, 734, 607, 608, 609, 627, 1418, 1419, 1420, 1421, 1422, 1423, 1424, 1425, 1426, 1427, 1428, 1429, 1430, 1431, 1432, 1433, 1434, 1435, 1492, 1493, 1494, 1495, 1496, 1497, 1498, 1499, 1500, 1501, 1508, 1509, 1510, 1512, 1513, 1514, 1502, 1503, 1504, 1505, 1506, 1507] (by decide +kernel) (by decide +kernel)
set_option maxRecDepth 20000 in
theorem gL_law_X11_meets : GoodIn wsL_law (wsV RL 64 RX11 yX11_meets wsX11_meets) := goodIn_app (goodIn_of _ (by decide +kernel)) ggL_law_X11_meets
set_option maxRecDepth 20000 in
theorem ggL_law_X12_meets : GoodIn wsL_law wsX12_meets := goodIn_r _ [738, 159, 584, 585, 586, 5, 587, 517, 379, 380, 381, 638, 639, 640, 641, 522, 523, 524, 525, 157, 588, 589, 590, 591, 739, 740, 741, 742, 160, 743, 744, 745, 746, 520, 163, 747, 748, 749, 750, 642, 643, 644, 645, 646, 647, 648, 649, 650, 651, 751, 752, 753, 754, 755, 756, 757, 758, 759, 760, 761, 762, 763, 764, 765, 766, 161, 151, 767, 768, 769, 770, 147, 148, 149, 150, 771, 772, 773, 774, 144, 152, 145, 775, 776, 777, 778, 779, 780, 781, 782, 783, 784, 785, 786, 787, 788, 789, 790, 791, 792, 793, 794, 795, 518, 158, 796, 797, 798, 1436, 1437, 1438, 1439, 1440, 1441, 1442, 1443, 1444, 1445, 1446, 1447, 1448, 1449, 1450, 1451, 1452, 1453, 1454, 1455, 1456, 1457, 1458, 1459, 1460, 1461, 1462, 1463, 1464, 1465, 1466, 1467, 1468, 1469, 1470, 1471, 1472, 1473, 1474, 1475, 1476, 1477, 1478, 1479, 1480, 1481] (by decide +kernel) (by decide +kernel)
set_option maxRecDepth 20000 in
theorem gL_law_X12_meets : GoodIn wsL_law (wsV RL 67 RX12 yX12_meets wsX12_meets) := goodIn_app (goodIn_of _ (by decide +kernel)) ggL_law_X12_meets
set_option maxRecDepth 20000 in
theorem ggL_law_X11_loosen : GoodIn wsL_law wsX11_loosen := goodIn_r _ [802, 29, 37, 46, 559, 560, 561, 28, 562, 272, 665, 666, 667, 2, 668, 62, 563, 564, 565, 36, 566, 107, 538, 539, 540, 541, 669, 670, 671, 45, 672, 673, 117, 674, 675, 237, 238, 239, 489, 676, 646, 647, 648, 677, 678, 679, 680, 803, 804, 805, 806, 1418, 1419, 1420, 1421, 1422, 1423, 1424, 1425, 1426, 1427, 1428, 1429, 1430, 1431, 1432, 1433, 1434, 1435, 1492, 1493, 1494, 1495, 1496, 1497, 1498, 1499, 1500, 1501, 1508, 1509, 1510, 1512, 1513, 1514] (by decide +kernel) (by decide +kernel)
set_option maxRecDepth 20000 in
theorem gL_law_X11_loosen : GoodIn wsL_law (wsV RL 68 RX11 yX11_loosen wsX11_loosen) := goodIn_app (goodIn_of _ (by decide +kernel)) ggL_law_X11_loosen
set_option maxRecDepth 20000 in
theorem ggL_law_X12_loosen : GoodIn wsL_law wsX12_loosen := goodIn_r _ [810, 159, 584, 585, 586, 5, 587, 517, 379, 380, 381, 739, 740, 741, 742, 160, 743, 744, 745, 746, 520, 163, 1436, 1437, 1438, 1439, 1440, 1441, 1442, 1443, 1444, 1445, 1446, 1447, 1448, 1449, 1450, 1451, 1452, 1453, 1454, 1455, 1456, 1457, 1458, 1459, 1460, 1461, 1462, 1463, 1464, 1465, 1466, 1467, 1468, 1469, 1470, 1471, 1472, 1473, 1474, 1475, 1476, 1477, 1478, 1479, 1480, 1481] (by decide +kernel) (by decide +kernel)
set_option maxRecDepth 20000 in
theorem gL_law_X12_loosen : GoodIn wsL_law (wsV RL 71 RX12 yX12_loosen wsX12_loosen) := goodIn_app (goodIn_of _ (by decide +kernel)) ggL_law_X12_loosen
set_option maxRecDepth 20000 in
theorem ggL_law_X11_stuff : GoodIn wsL_law wsX11_stuff := goodIn_r _ [814, 29, 37, 46, 559, 560, 561, 28, 562, 272, 665, 666, 667, 2, 668, 62, 567, 568, 569, 36, 570, 107, 538, 539, 540, 541, 669, 670, 671, 45, 672, 673, 117, 674, 675, 237, 238, 239, 489, 676, 646, 647, 648, 677, 678, 679, 680, 815, 816, 817, 818, 1418, 1419, 1420, 1421, 1422, 1423, 1424, 1425, 1426, 1427, 1428, 1429, 1430, 1431, 1432, 1433, 1434, 1435, 1492, 1493, 1494, 1495, 1496, 1497, 1498, 1499, 1500, 1501, 1508, 1509, 1510, 1512, 1513, 1514] (by decide +kernel) (by decide +kernel)
set_option maxRecDepth 20000 in
theorem gL_law_X11_stuff : GoodIn wsL_law (wsV RL 72 RX11 yX11_stuff wsX11_stuff) := goodIn_app (goodIn_of _ (by decide +kernel)) ggL_law_X11_stuff
set_option maxRecDepth 20000 in
theorem ggL_law_X12_stuff : GoodIn wsL_law wsX12_stuff := goodIn_r _ [822, 159, 584, 585, 586, 5, 587, 517, 379, 380, 381, 739, 740, 741, 742, 160, 743, 744, 745, 746, 520, 163, 1436, 1437, 1438, 1439, 1440, 1441, 1442, 1443, 1444, 1445, 1446, 1447, 1448, 1449, 1450, 1451, 1452, 1453, 1454, 1455, 1456, 1457, 1458, 1459, 1460, 1461, 1462, 1463, 1464, 1465, 1466, 1467, 1468, 1469, 1470, 1471, 1472, 1473, 1474, 1475, 1476, 1477, 1478, 1479, 1480, 1481] (by decide +kernel) (by decide +kernel)
set_option maxRecDepth 20000 in
theorem gL_law_X12_stuff : GoodIn wsL_law (wsV RL 75 RX12 yX12_stuff wsX12_stuff) := goodIn_app (goodIn_of _ (by decide +kernel)) ggL_law_X12_stuff
set_option maxRecDepth 20000 in
theorem ggL_law_X11_swallow : GoodIn wsL_law wsX11_swallow := goodIn_r _ [826, 37, 46, 530, 531, 532, 2, 533, 29, 468, 665, 666, 667, 668, 62, 534, 535, 536, 36, 537, 107, 538, 539, 540, 541, 669, 670, 671, 45, 672, 673, 117, 674, 675, 237, 238, 239, 489, 676, 646, 647, 648, 677, 678, 679, 680, 827, 828, 829, 830, 1418, 1419, 1420, 1421, 1422, 1423, 1424, 1425, 1426, 1427, 1428, 1429, 1430, 1431, 1432, 1433, 1434, 1435, 1492, 1493, 1494, 1495, 1496, 1497, 1498, 1499, 1500, 1501, 1508, 1509, 1510, 1512, 1513, 1514] (by decide +kernel) (by decide +kernel)
set_option maxRecDepth 20000 in
theorem gL_law_X11_swallow : GoodIn wsL_law (wsV RL 76 RX11 yX11_swallow wsX11_swallow) := goodIn_app (goodIn_of _ (by decide +kernel)) ggL_law_X11_swallow
set_option maxRecDepth 20000 in
theorem ggL_law_X12_swallow : GoodIn wsL_law wsX12_swallow := goodIn_r _ [834, 517, 159, 739, 740, 741, 5, 742, 160, 743, 744, 745, 746, 520, 163, 1436, 1437, 1438, 1439, 1440, 1441, 1442, 1443, 1444, 1445, 1446, 1447, 1448, 1449, 1450, 1451, 1452, 1453, 1454, 1455, 1456, 1457, 1458, 1459, 1460, 1461, 1462, 1463, 1464, 1465, 1466, 1467, 1468, 1469, 1470, 1471, 1472, 1473, 1474, 1475, 1476, 1477, 1478, 1479, 1480, 1481] (by decide +kernel) (by decide +kernel)
set_option maxRecDepth 20000 in
theorem gL_law_X12_swallow : GoodIn wsL_law (wsV RL 79 RX12 yX12_swallow wsX12_swallow) := goodIn_app (goodIn_of _ (by decide +kernel)) ggL_law_X12_swallow
set_option maxRecDepth 20000 in
theorem ggL_law_X11_tear : GoodIn wsL_law wsX11_tear := goodIn_r _ [838, 29, 37, 46, 602, 603, 604, 28, 605, 473, 665, 666, 667, 2, 668, 62, 606, 607, 608, 36, 609, 107, 669, 670, 671, 45, 672, 673, 117, 674, 675, 237, 238, 239, 489, 676, 646, 647, 648, 839, 840, 841, 842, 843, 844, 845, 846, 690, 534, 535, 536, 537, 1418, 1419, 1420, 1421, 1422, 1423, 1424, 1425, 1426, 1427, 1428, 1429, 1430, 1431, 1432, 1433, 1434, 1435, 1492, 1493, 1494, 1495, 1496, 1497, 1498, 1499, 1500, 1501, 1508, 1509, 1510, 1512, 1513, 1514] (by decide +kernel) (by decide +kernel)
set_option maxRecDepth 20000 in
theorem gL_law_X11_tear : GoodIn wsL_law (wsV RL 80 RX11 yX11_tear wsX11_tear) := goodIn_app (goodIn_of _ (by decide +kernel)) ggL_law_X11_tear
set_option maxRecDepth 20000 in
theorem ggL_law_X12_tear : GoodIn wsL_law wsX12_tear := goodIn_r _ [850, 159, 645, 646, 647, 648, 614, 615, 616, 5, 617, 518, 379, 380, 381, 739, 740, 741, 742, 160, 743, 744, 745, 746, 520, 163, 1436, 1437, 1438, 1439, 1440, 1441, 1442, 1443, 1444, 1445, 1446, 1447, 1448, 1449, 1450, 1451, 1452, 1453, 1454, 1455, 1456, 1457, 1458, 1459, 1460, 1461, 1462, 1463, 1464, 1465, 1466, 1467, 1468, 1469, 1470, 1471, 1472, 1473, 1474, 1475, 1476, 1477, 1478, 1479, 1480, 1481] (by decide +kernel) (by decide +kernel)
set_option maxRecDepth 20000 in
theorem gL_law_X12_tear : GoodIn wsL_law (wsV RL 83 RX12 yX12_tear wsX12_tear) := goodIn_app (goodIn_of _ (by decide +kernel)) ggL_law_X12_tear
set_option maxRecDepth 20000 in
theorem ggL_law_X11_give : GoodIn wsL_law wsX11_give := goodIn_r _ [854, 37, 46, 530, 531, 532, 2, 533, 29, 468, 665, 666, 667, 668, 62, 538, 539, 540, 36, 541, 107, 669, 670, 671, 45, 672, 673, 117, 674, 675, 237, 238, 239, 489, 676, 646, 647, 648, 677, 678, 679, 680, 1418, 1419, 1420, 1421, 1422, 1423, 1424, 1425, 1426, 1427, 1428, 1429, 1430, 1431, 1432, 1433, 1434, 1435, 1492, 1493, 1494, 1495, 1496, 1497, 1498, 1499, 1500, 1501, 1508, 1509, 1510, 1512, 1513, 1514] (by decide +kernel) (by decide +kernel)
set_option maxRecDepth 20000 in
theorem gL_law_X11_give : GoodIn wsL_law (wsV RL 84 RX11 yX11_give wsX11_give) := goodIn_app (goodIn_of _ (by decide +kernel)) ggL_law_X11_give
set_option maxRecDepth 20000 in
theorem ggL_law_X12_give : GoodIn wsL_law wsX12_give := goodIn_r _ [858, 517, 159, 379, 380, 5, 381, 739, 740, 741, 742, 160, 743, 744, 745, 746, 520, 163, 1436, 1437, 1438, 1439, 1440, 1441, 1442, 1443, 1444, 1445, 1446, 1447, 1448, 1449, 1450, 1451, 1452, 1453, 1454, 1455, 1456, 1457, 1458, 1459, 1460, 1461, 1462, 1463, 1464, 1465, 1466, 1467, 1468, 1469, 1470, 1471, 1472, 1473, 1474, 1475, 1476, 1477, 1478, 1479, 1480, 1481] (by decide +kernel) (by decide +kernel)
set_option maxRecDepth 20000 in
theorem gL_law_X12_give : GoodIn wsL_law (wsV RL 87 RX12 yX12_give wsX12_give) := goodIn_app (goodIn_of _ (by decide +kernel)) ggL_law_X12_give
set_option maxRecDepth 20000 in
theorem ggL_law_X11_days : GoodIn wsL_law wsX11_days := goodIn_r _ [862, 37, 46, 530, 531, 532, 2, 533, 29, 468, 665, 666, 667, 668, 62, 863, 693, 694, 36, 695, 107, 669, 670, 671, 45, 672, 673, 117, 674, 675, 237, 238, 239, 489, 676, 646, 647, 648, 864, 865, 866, 867, 42, 868, 869, 870, 871, 108, 872, 690, 631, 632, 633, 873, 874, 875, 876, 877, 572, 573, 574, 878, 879, 880, 881, 882, 883, 884, 885, 886, 887, 888, 889, 890, 891, 892, 893, 894, 895, 41, 896, 113, 897, 898, 899, 900, 1418, 1419, 1420, 1421, 1422, 1423, 1424, 1425, 1426, 1427, 1428, 1429, 1430, 1431, 1432, 1433, 1434, 1435, 1492, 1493, 1494, 1495, 1496, 1497, 1498, 1499, 1500, 1501, 1508, 1509, 1510, 1512, 1513, 1514, 1511] (by decide +kernel) (by decide +kernel)
set_option maxRecDepth 20000 in
theorem gL_law_X11_days : GoodIn wsL_law (wsV RL 88 RX11 yX11_days wsX11_days) := goodIn_app (goodIn_of _ (by decide +kernel)) ggL_law_X11_days
set_option maxRecDepth 20000 in
theorem ggL_law_X12_days : GoodIn wsL_law wsX12_days := goodIn_r _ [904, 517, 159, 379, 380, 5, 381, 905, 906, 907, 908, 739, 740, 741, 742, 160, 743, 744, 745, 746, 520, 163, 909, 910, 911, 912, 913, 914, 915, 916, 588, 589, 590, 591, 917, 918, 919, 920, 645, 646, 647, 648, 921, 922, 923, 924, 638, 639, 640, 641, 584, 585, 586, 587, 522, 523, 524, 525, 157, 642, 643, 644, 649, 650, 651, 789, 790, 791, 925, 926, 927, 928, 1436, 1437, 1438, 1439, 1440, 1441, 1442, 1443, 1444, 1445, 1446, 1447, 1448, 1449, 1450, 1451, 1452, 1453, 1454, 1455, 1456, 1457, 1458, 1459, 1460, 1461, 1462, 1463, 1464, 1465, 1466, 1467, 1468, 1469, 1470, 1471, 1472, 1473, 1474, 1475, 1476, 1477, 1478, 1479, 1480, 1481] (by decide +kernel) (by decide +kernel)
set_option maxRecDepth 20000 in
theorem gL_law_X12_days : GoodIn wsL_law (wsV RL 91 RX12 yX12_days wsX12_days) := goodIn_app (goodIn_of _ (by decide +kernel)) ggL_law_X12_days
set_option maxRecDepth 20000 in
theorem ggL_law_X11_spite : GoodIn wsL_law wsX11_spite := goodIn_r _ [932, 64, 1418, 1419, 1420, 1421, 1422, 1423, 1424, 1425, 1426, 1427, 1428, 1429, 1430, 1431, 1432, 1433, 1434, 1435] (by decide +kernel) (by decide +kernel)
set_option maxRecDepth 20000 in
theorem gL_law_X11_spite : GoodIn wsL_law (wsV RL 92 RX11 yX11_spite wsX11_spite) := goodIn_app (goodIn_of _ (by decide +kernel)) ggL_law_X11_spite
set_option maxRecDepth 20000 in
theorem ggL_law_X12_spite : GoodIn wsL_law wsX12_spite := goodIn_r _ [936, 162, 379, 380, 5, 381, 1436, 1437, 1438, 1439, 1440, 1441, 1442, 1443, 1444, 1445, 1446, 1447, 1448, 1449, 1450, 1451, 1452, 1453, 1454, 1455, 1456, 1457, 1458, 1459, 1460, 1461, 1462, 1463, 1464, 1465, 1466, 1467, 1468, 1469, 1470, 1471, 1472, 1473, 1474, 1475, 1476, 1477, 1478, 1479, 1480, 1481] (by decide +kernel) (by decide +kernel)
set_option maxRecDepth 20000 in
theorem gL_law_X12_spite : GoodIn wsL_law (wsV RL 95 RX12 yX12_spite wsX12_spite) := goodIn_app (goodIn_of _ (by decide +kernel)) ggL_law_X12_spite
set_option maxRecDepth 20000 in
theorem ggL_law_X11_years : GoodIn wsL_law wsX11_years := goodIn_r _ [940, 37, 65, 46, 64, 530, 531, 532, 2, 533, 29, 468, 863, 693, 694, 36, 695, 107, 669, 670, 671, 45, 672, 673, 117, 674, 675, 237, 238, 239, 489, 676, 646, 647, 648, 941, 942, 943, 944, 945, 946, 947, 948, 949, 950, 622, 623, 624, 28, 625, 81, 626, 560, 561, 562, 272, 571, 572, 573, 574, 681, 682, 683, 684, 631, 632, 633, 685, 628, 629, 630, 686, 687, 688, 689, 690, 691, 650, 651, 692, 696, 697, 698, 699, 109, 108, 700, 564, 565, 566, 701, 568, 569, 570, 702, 703, 704, 705, 84, 706, 535, 536, 537, 707, 708, 709, 32, 710, 96, 101, 98, 99, 711, 712, 713, 714, 715, 716, 102, 717, 718, 719, 720, 721, 722, 723, 724, 725, 726, 727, 576, 577, 578, 728, 729, 730, 731, 732, 733, 734, 607, 608, 609, 843, 844, 845, 846, 864, 865, 866, 867, 42, 868, 869, 870, 871, 872, 873, 874, 875, 876, 877, 878, 879, 880, 881, 882, 883, 884, 885, 886, 887, 888, 889, 890, 891, 892, 893, 894, 895, 41, 896, 113, 897, 898, 899, 900, 1418, 1419, 1420, 1421, 1422, 1423, 1424, 1425, 1426, 1427, 1428, 1429, 1430, 1431, 1432, 1433, 1434, 1435, 1492, 1493, 1494, 1495, 1496, 1497, 1498, 1499, 1500, 1501, 1508, 1509, 1510, 1512, 1513, 1514, 1502, 1503, 1504, 1505, 1506, 1507, 1511] (by decide +kernel) (by decide +kernel)
set_option maxRecDepth 20000 in
theorem gL_law_X11_years : GoodIn wsL_law (wsV RL 98 RX11 yX11_years wsX11_years) := goodIn_app (goodIn_of _ (by decide +kernel)) ggL_law_X11_years
set_option maxRecDepth 20000 in
theorem ggL_law_X12_years : GoodIn wsL_law wsX12_years := goodIn_r _ [954, 517, 955, 159, 905, 906, 907, 5, 908, 379, 380, 381, 743, 744, 745, 746, 520, 163, 956, 957, 958, 959, 162, 645, 646, 647, 648, 960, 961, 962, 963, 964, 965, 638, 639, 640, 641, 584, 585, 586, 587, 522, 523, 524, 525, 157, 588, 589, 590, 591, 747, 748, 749, 750, 642, 643, 644, 649, 650, 651, 751, 752, 753, 754, 755, 756, 757, 758, 759, 760, 761, 762, 763, 764, 765, 766, 161, 151, 767, 768, 769, 770, 147, 148, 149, 150, 771, 772, 773, 774, 144, 152, 145, 775, 776, 777, 778, 779, 780, 781, 782, 783, 784, 785, 786, 787, 788, 789, 790, 791, 792, 793, 794, 795, 518, 158, 796, 797, 798, 909, 910, 911, 912, 913, 914, 915, 916, 917, 918, 919, 920, 921, 922, 923, 924, 925, 926, 927, 928, 1436, 1437, 1438, 1439, 1440, 1441, 1442, 1443, 1444, 1445, 1446, 1447, 1448, 1449, 1450, 1451, 1452, 1453, 1454, 1455, 1456, 1457, 1458, 1459, 1460, 1461, 1462, 1463, 1464, 1465, 1466, 1467, 1468, 1469, 1470, 1471, 1472, 1473, 1474, 1475, 1476, 1477, 1478, 1479, 1480, 1481] (by decide +kernel) (by decide +kernel)
set_option maxRecDepth 20000 in
theorem gL_law_X12_years : GoodIn wsL_law (wsV RL 102 RX12 yX12_years wsX12_years) := goodIn_app (goodIn_of _ (by decide +kernel)) ggL_law_X12_years
set_option maxRecDepth 20000 in
theorem ggL_law_X11_status : GoodIn wsL_law wsX11_status := goodIn_r _ [969, 62, 1418, 1419, 1420, 1421, 1422, 1423, 1424, 1425, 1426, 1427, 1428, 1429, 1430, 1431, 1432, 1433, 1434, 1435] (by decide +kernel) (by decide +kernel)
set_option maxRecDepth 20000 in
theorem gL_law_X11_status : GoodIn wsL_law (wsV RL 103 RX11 yX11_status wsX11_status) := goodIn_app (goodIn_of _ (by decide +kernel)) ggL_law_X11_status
set_option maxRecDepth 20000 in
theorem ggL_law_X12_status : GoodIn wsL_law wsX12_status := goodIn_r _ [973, 160, 379, 380, 5, 381, 1436, 1437, 1438, 1439, 1440, 1441, 1442, 1443, 1444, 1445, 1446, 1447, 1448, 1449, 1450, 1451, 1452, 1453, 1454, 1455, 1456, 1457, 1458, 1459, 1460, 1461, 1462, 1463, 1464, 1465, 1466, 1467, 1468, 1469, 1470, 1471, 1472, 1473, 1474, 1475, 1476, 1477, 1478, 1479, 1480, 1481] (by decide +kernel) (by decide +kernel)
set_option maxRecDepth 20000 in
theorem gL_law_X12_status : GoodIn wsL_law (wsV RL 106 RX12 yX12_status wsX12_status) := goodIn_app (goodIn_of _ (by decide +kernel)) ggL_law_X12_status
set_option maxRecDepth 20000 in
theorem ggL_law_X11_undo : GoodIn wsL_law wsX11_undo := goodIn_r _ [977, 46, 978, 37, 979, 980, 981, 45, 982, 674, 489, 117, 673, 675, 237, 238, 239, 1418, 1419, 1420, 1421, 1422, 1423, 1424, 1425, 1426, 1427, 1428, 1429, 1430, 1431, 1432, 1433, 1434, 1435, 1512, 1513, 1514, 1508, 1509, 1510] (by decide +kernel) (by decide +kernel)
set_option maxRecDepth 20000 in
theorem gL_law_X11_undo : GoodIn wsL_law (wsV RL 107 RX11 yX11_undo wsX11_undo) := goodIn_app (goodIn_of _ (by decide +kernel)) ggL_law_X11_undo
set_option maxRecDepth 20000 in
theorem ggL_law_X12_undo : GoodIn wsL_law wsX12_undo := goodIn_r _ [986, 520, 159, 163, 1436, 1437, 1438, 1439, 1440, 1441, 1442, 1443, 1444, 1445, 1446, 1447, 1448, 1449, 1450, 1451, 1452, 1453, 1454, 1455, 1456, 1457, 1458, 1459, 1460, 1461, 1462, 1463, 1464, 1465, 1466, 1467, 1468, 1469, 1470, 1471, 1472, 1473, 1474, 1475, 1476, 1477, 1478, 1479, 1480, 1481] (by decide +kernel) (by decide +kernel)
set_option maxRecDepth 20000 in
theorem gL_law_X12_undo : GoodIn wsL_law (wsV RL 110 RX12 yX12_undo wsX12_undo) := goodIn_app (goodIn_of _ (by decide +kernel)) ggL_law_X12_undo
set_option maxRecDepth 20000 in
theorem ggL_law_X11_log : GoodIn wsL_law wsX11_log := goodIn_r _ [990, 37, 42, 863, 693, 694, 36, 695, 107, 991, 992, 41, 993, 994, 646, 647, 648, 995, 996, 997, 998, 113, 1418, 1419, 1420, 1421, 1422, 1423, 1424, 1425, 1426, 1427, 1428, 1429, 1430, 1431, 1432, 1433, 1434, 1435, 1508, 1509, 1510, 1511] (by decide +kernel) (by decide +kernel)
set_option maxRecDepth 20000 in
theorem gL_law_X11_log : GoodIn wsL_law (wsV RL 111 RX11 yX11_log wsX11_log) := goodIn_app (goodIn_of _ (by decide +kernel)) ggL_law_X11_log
set_option maxRecDepth 20000 in
theorem ggL_law_X12_log : GoodIn wsL_law wsX12_log := goodIn_r _ [1002, 159, 379, 380, 5, 381, 1436, 1437, 1438, 1439, 1440, 1441, 1442, 1443, 1444, 1445, 1446, 1447, 1448, 1449, 1450, 1451, 1452, 1453, 1454, 1455, 1456, 1457, 1458, 1459, 1460, 1461, 1462, 1463, 1464, 1465, 1466, 1467, 1468, 1469, 1470, 1471, 1472, 1473, 1474, 1475, 1476, 1477, 1478, 1479, 1480, 1481] (by decide +kernel) (by decide +kernel)
set_option maxRecDepth 20000 in
theorem gL_law_X12_log : GoodIn wsL_law (wsV RL 114 RX12 yX12_log wsX12_log) := goodIn_app (goodIn_of _ (by decide +kernel)) ggL_law_X12_log
set_option maxRecDepth 20000 in
theorem ggL_law_X11_rises : GoodIn wsL_law wsX11_rises := goodIn_r _ [1006, 29, 37, 1007, 622, 623, 624, 28, 625, 81, 626, 560, 561, 562, 272, 1008, 1009, 1010, 36, 1011, 685, 628, 629, 630, 107, 631, 632, 633, 692, 693, 694, 695, 696, 697, 698, 699, 109, 108, 700, 564, 565, 566, 701, 568, 569, 570, 702, 703, 704, 705, 84, 706, 535, 536, 537, 707, 708, 709, 32, 710, 96, 101, 98, 99, 711, 646, 647, 648, 712, 650, 651, 713, 714, 715, 716, 102, 717, 718, 719, 720, 721, 722, 723, 724, 725, 726, 1418, 1419, 1420, 1421, 1422, 1423, 1424, 1425, 1426, 1427, 1428, 1429, 1430, 1431, 1432, 1433, 1434, 1435, 1492, 1493, 1494, 1495, 1496, 1497, 1498, 1499, 1500, 1501, 1508, 1509, 1510, 1502, 1503, 1504, 1505, 1506, 1507] (by decide +kernel) (by decide +kernel)
set_option maxRecDepth 20000 in
theorem gL_law_X11_rises : GoodIn wsL_law (wsV RL 115 RX11 yX11_rises wsX11_rises) := goodIn_app (goodIn_of _ (by decide +kernel)) ggL_law_X11_rises
set_option maxRecDepth 20000 in
theorem ggL_law_X12_rises : GoodIn wsL_law wsX12_rises := goodIn_r _ [1015, 1016, 638, 639, 640, 5, 641, 584, 585, 586, 587, 517, 379, 380, 381, 522, 523, 524, 525, 157, 751, 752, 753, 754, 159, 642, 643, 644, 645, 646, 647, 648, 649, 650, 651, 755, 756, 757, 758, 759, 760, 761, 762, 763, 764, 765, 766, 161, 151, 767, 768, 769, 770, 147, 148, 149, 150, 771, 772, 773, 774, 144, 152, 145, 775, 776, 777, 778, 779, 780, 781, 782, 783, 784, 785, 786, 787, 788, 1436, 1437, 1438, 1439, 1440, 1441, 1442, 1443, 1444, 1445, 1446, 1447, 1448, 1449, 1450, 1451, 1452, 1453, 1454, 1455, 1456, 1457, 1458, 1459, 1460, 1461, 1462, 1463, 1464, 1465, 1466, 1467, 1468, 1469, 1470, 1471, 1472, 1473, 1474, 1475, 1476, 1477, 1478, 1479, 1480, 1481] (by decide +kernel) (by decide +kernel)
set_option maxRecDepth 20000 in
theorem gL_law_X12_rises : GoodIn wsL_law (wsV RL 118 RX12 yX12_rises wsX12_rises) := goodIn_app (goodIn_of _ (by decide +kernel)) ggL_law_X12_rises
set_option maxRecDepth 20000 in
theorem ggL_law_X11_later : GoodIn wsL_law wsX11_later := goodIn_r _ [1020, 29, 37, 622, 623, 624, 28, 625, 81, 626, 560, 561, 562, 272, 627, 628, 629, 36, 630, 107, 631, 632, 633, 1021, 687, 688, 689, 690, 646, 647, 648, 691, 650, 651, 692, 693, 694, 695, 696, 697, 698, 699, 109, 108, 700, 564, 565, 566, 701, 568, 569, 570, 702, 703, 704, 705, 84, 706, 535, 536, 537, 707, 708, 709, 32, 710, 96, 101, 98, 99, 711, 712, 713, 714, 715, 716, 102, 717, 718, 719, 720, 721, 722, 723, 724, 725, 726, 1418, 1419, 1420, 1421, 1422, 1423, 1424, 1425, 1426, 1427, 1428, 1429, 1430, 1431, 1432, 1433, 1434, 1435, 1492, 1493, 1494, 1495, 1496, 1497, 1498, 1499, 1500, 1501, 1508, 1509, 1510, 1502, 1503, 1504, 1505, 1506, 1507] (by decide +kernel) (by decide +kernel)
set_option maxRecDepth 20000 in
theorem gL_law_X11_later : GoodIn wsL_law (wsV RL 119 RX11 yX11_later wsX11_later) := goodIn_app (goodIn_of _ (by decide +kernel)) ggL_law_X11_later
set_option maxRecDepth 20000 in
theorem ggL_law_X12_later : GoodIn wsL_law wsX12_later := goodIn_r _ [1025, 159, 638, 639, 640, 5, 641, 584, 585, 586, 587, 517, 379, 380, 381, 522, 523, 524, 525, 157, 642, 643, 644, 645, 646, 647, 648, 649, 650, 651, 755, 756, 757, 758, 759, 760, 761, 762, 763, 764, 765, 766, 161, 151, 767, 768, 769, 770, 147, 148, 149, 150, 771, 772, 773, 774, 144, 152, 145, 775, 776, 777, 778, 779, 780, 781, 782, 783, 784, 785, 786, 787, 788, 789, 790, 791, 1436, 1437, 1438, 1439, 1440, 1441, 1442, 1443, 1444, 1445, 1446, 1447, 1448, 1449, 1450, 1451, 1452, 1453, 1454, 1455, 1456, 1457, 1458, 1459, 1460, 1461, 1462, 1463, 1464, 1465, 1466, 1467, 1468, 1469, 1470, 1471, 1472, 1473, 1474, 1475, 1476, 1477, 1478, 1479, 1480, 1481] (by decide +kernel) (by decide +kernel)
set_option maxRecDepth 20000 in
theorem gL_law_X12_later : GoodIn wsL_law (wsV RL 123 RX12 yX12_later wsX12_later) := goodIn_app (goodIn_of _ (by decide +kernel)) ggL_law_X12_later
set_option maxRecDepth 20000 in
theorem ggL_law_X11_soonest : GoodIn wsL_law wsX11_soonest := goodIn_r _ [1029, 29, 468, 601, 602, 603, 604, 28, 605, 473, 622, 623, 624, 625, 81, 626, 560, 561, 562, 272, 1030, 1031, 1032, 2, 1033, 37, 627, 628, 629, 36, 630, 107, 631, 632, 633, 1021, 687, 688, 689, 690, 646, 647, 648, 691, 650, 651, 692, 693, 694, 695, 696, 697, 698, 699, 109, 108, 700, 564, 565, 566, 701, 568, 569, 570, 702, 703, 704, 705, 84, 706, 535, 536, 537, 707, 708, 709, 32, 710, 96, 101, 98, 99, 711, 712, 713, 714, 715, 716, 102, 717, 718, 719, 720, 721, 722, 723, 724, 725, 726, 1418, 1419, 1420, 1421, 1422, 1423, 1424, 1425, 1426, 1427, 1428, 1429, 1430, 1431, 1432, 1433, 1434, 1435, 1492, 1493, 1494, 1495, 1496, 1497, 1498, 1499, 1500, 1501, 1508, 1509, 1510, 1502, 1503, 1504, 1505, 1506, 1507] (by decide +kernel) (by decide +kernel)
set_option maxRecDepth 20000 in
theorem gL_law_X11_soonest : GoodIn wsL_law (wsV RL 124 RX11 yX11_soonest wsX11_soonest) := goodIn_app (goodIn_of _ (by decide +kernel)) ggL_law_X11_soonest
set_option maxRecDepth 20000 in
theorem ggL_law_X12_soonest : GoodIn wsL_law wsX12_soonest := goodIn_r _ [1037, 517, 158, 614, 615, 616, 5, 617, 518, 379, 380, 381, 638, 639, 640, 641, 584, 585, 586, 587, 522, 523, 524, 525, 157, 1038, 1039, 1040, 1041, 159, 642, 643, 644, 645, 646, 647, 648, 649, 650, 651, 755, 756, 757, 758, 759, 760, 761, 762, 763, 764, 765, 766, 161, 151, 767, 768, 769, 770, 147, 148, 149, 150, 771, 772, 773, 774, 144, 152, 145, 775, 776, 777, 778, 779, 780, 781, 782, 783, 784, 785, 786, 787, 788, 789, 790, 791, 796, 797, 798, 1436, 1437, 1438, 1439, 1440, 1441, 1442, 1443, 1444, 1445, 1446, 1447, 1448, 1449, 1450, 1451, 1452, 1453, 1454, 1455, 1456, 1457, 1458, 1459, 1460, 1461, 1462, 1463, 1464, 1465, 1466, 1467, 1468, 1469, 1470, 1471, 1472, 1473, 1474, 1475, 1476, 1477, 1478, 1479, 1480, 1481] (by decide +kernel) (by decide +kernel)
set_option maxRecDepth 20000 in
theorem gL_law_X12_soonest : GoodIn wsL_law (wsV RL 127 RX12 yX12_soonest wsX12_soonest) := goodIn_app (goodIn_of _ (by decide +kernel)) ggL_law_X12_soonest
set_option maxRecDepth 20000 in
theorem ggL_law_X11_pairs : GoodIn wsL_law wsX11_pairs := goodIn_r _ [1045, 1007, 56, 37, 1046, 1047, 1048, 530, 531, 532, 2, 533, 29, 468, 1049, 1050, 1051, 55, 1052, 1053, 135, 1054, 1055, 133, 134, 1056, 1057, 572, 573, 36, 574, 107, 1058, 623, 624, 28, 625, 81, 626, 560, 561, 562, 272, 1059, 1009, 1010, 1011, 685, 628, 629, 630, 631, 632, 633, 692, 693, 694, 695, 696, 697, 698, 699, 109, 108, 700, 564, 565, 566, 701, 568, 569, 570, 702, 703, 704, 705, 84, 706, 535, 536, 537, 707, 708, 709, 32, 710, 96, 101, 98, 99, 711, 646, 647, 648, 712, 650, 651, 713, 714, 715, 716, 102, 717, 718, 719, 720, 721, 722, 723, 724, 725, 726, 1060, 874, 875, 876, 872, 877, 1061, 1062, 1063, 1064, 1065, 1066, 1418, 1419, 1420, 1421, 1422, 1423, 1424, 1425, 1426, 1427, 1428, 1429, 1430, 1431, 1432, 1433, 1434, 1435, 1522, 1523, 1524, 1525, 1526, 1527, 1528, 1492, 1493, 1494, 1495, 1496, 1497, 1498, 1499, 1500, 1501, 1508, 1509, 1510, 1502, 1503, 1504, 1505, 1506, 1507] (by decide +kernel) (by decide +kernel)
set_option maxRecDepth 20000 in
theorem gL_law_X11_pairs : GoodIn wsL_law (wsV RL 128 RX11 yX11_pairs wsX11_pairs) := goodIn_app (goodIn_of _ (by decide +kernel)) ggL_law_X11_pairs
set_option maxRecDepth 20000 in
theorem ggL_law_X12_pairs : GoodIn wsL_law wsX12_pairs := goodIn_r _ [1070, 517, 1016, 1071, 1072, 379, 380, 5, 381, 1073, 1074, 1075, 1076, 1077, 1078, 1079, 1080, 1081, 522, 523, 524, 525, 157, 588, 589, 590, 591, 159, 638, 639, 640, 641, 584, 585, 586, 587, 362, 363, 364, 751, 752, 753, 754, 642, 643, 644, 645, 646, 647, 648, 649, 650, 651, 755, 756, 757, 758, 759, 760, 761, 762, 763, 764, 765, 766, 161, 151, 767, 768, 769, 770, 147, 148, 149, 150, 771, 772, 773, 774, 144, 152, 145, 775, 776, 777, 778, 779, 780, 781, 782, 783, 784, 785, 786, 787, 788, 1082, 1083, 1084, 1085, 1436, 1437, 1438, 1439, 1440, 1441, 1442, 1443, 1444, 1445, 1446, 1447, 1448, 1449, 1450, 1451, 1452, 1453, 1454, 1455, 1456, 1457, 1458, 1459, 1460, 1461, 1462, 1463, 1464, 1465, 1466, 1467, 1468, 1469, 1470, 1471, 1472, 1473, 1474, 1475, 1476, 1477, 1478, 1479, 1480, 1481] (by decide +kernel) (by decide +kernel)
set_option maxRecDepth 20000 in
theorem gL_law_X12_pairs : GoodIn wsL_law (wsV RL 131 RX12 yX12_pairs wsX12_pairs) := goodIn_app (goodIn_of _ (by decide +kernel)) ggL_law_X12_pairs
set_option maxRecDepth 20000 in
theorem ggL_law_X11_allKnow : GoodIn wsL_law wsX11_allKnow := goodIn_r _ [1089, 38, 37, 56, 530, 531, 532, 2, 533, 29, 468, 1090, 1091, 1092, 36, 1093, 107, 1094, 237, 238, 239, 1095, 1096, 1097, 1098, 108, 872, 727, 576, 577, 578, 1049, 1050, 1051, 55, 1052, 1053, 135, 1054, 1055, 133, 134, 1056, 1057, 572, 573, 574, 1058, 623, 624, 28, 625, 81, 626, 560, 561, 562, 272, 1059, 1009, 1010, 1011, 685, 628, 629, 630, 631, 632, 633, 692, 693, 694, 695, 696, 697, 698, 699, 109, 700, 564, 565, 566, 701, 568, 569, 570, 702, 703, 704, 705, 84, 706, 535, 536, 537, 707, 708, 709, 32, 710, 96, 101, 98, 99, 711, 646, 647, 648, 712, 650, 651, 713, 714, 715, 716, 102, 717, 718, 719, 720, 721, 722, 723, 724, 725, 726, 1060, 874, 875, 876, 877, 1061, 1062, 1063, 1064, 1065, 1066, 1099, 1100, 1101, 1102, 1103, 682, 683, 684, 686, 687, 688, 689, 690, 691, 728, 729, 730, 731, 732, 733, 734, 607, 608, 609, 863, 868, 869, 870, 871, 897, 898, 899, 900, 1418, 1419, 1420, 1421, 1422, 1423, 1424, 1425, 1426, 1427, 1428, 1429, 1430, 1431, 1432, 1433, 1434, 1435, 1492, 1493, 1494, 1495, 1496, 1497, 1498, 1499, 1500, 1501, 1508, 1509, 1510, 1522, 1523, 1524, 1525, 1526, 1527, 1528, 1502, 1503, 1504, 1505, 1506, 1507] (by decide +kernel) (by decide +kernel)
set_option maxRecDepth 20000 in
theorem gL_law_X11_allKnow : GoodIn wsL_law (wsV RL 132 RX11 yX11_allKnow wsX11_allKnow) := goodIn_app (goodIn_of _ (by decide +kernel)) ggL_law_X11_allKnow
set_option maxRecDepth 20000 in
theorem ggL_law_X12_allKnow : GoodIn wsL_law wsX12_allKnow := goodIn_r _ [1107, 517, 165, 159, 1108, 1109, 1110, 5, 1111, 1112, 1113, 1114, 1115, 1072, 164, 1073, 1074, 1075, 1076, 1077, 1078, 1079, 1080, 1081, 1071, 522, 523, 524, 525, 157, 588, 589, 590, 591, 638, 639, 640, 641, 584, 585, 586, 587, 379, 380, 381, 362, 363, 364, 751, 752, 753, 754, 642, 643, 644, 645, 646, 647, 648, 649, 650, 651, 755, 756, 757, 758, 759, 760, 761, 762, 763, 764, 765, 766, 161, 151, 767, 768, 769, 770, 147, 148, 149, 150, 771, 772, 773, 774, 144, 152, 145, 775, 776, 777, 778, 779, 780, 781, 782, 783, 784, 785, 786, 787, 788, 747, 748, 749, 750, 789, 790, 791, 792, 793, 794, 795, 518, 158, 796, 797, 798, 917, 918, 919, 920, 921, 922, 923, 924, 1436, 1437, 1438, 1439, 1440, 1441, 1442, 1443, 1444, 1445, 1446, 1447, 1448, 1449, 1450, 1451, 1452, 1453, 1454, 1455, 1456, 1457, 1458, 1459, 1460, 1461, 1462, 1463, 1464, 1465, 1466, 1467, 1468, 1469, 1470, 1471, 1472, 1473, 1474, 1475, 1476, 1477, 1478, 1479, 1480, 1481] (by decide +kernel) (by decide +kernel)
set_option maxRecDepth 20000 in
theorem gL_law_X12_allKnow : GoodIn wsL_law (wsV RL 135 RX12 yX12_allKnow wsX12_allKnow) := goodIn_app (goodIn_of _ (by decide +kernel)) ggL_law_X12_allKnow
set_option maxRecDepth 20000 in
theorem ggL_law_X11_seen : GoodIn wsL_law wsX11_seen := goodIn_r _ [1119, 29, 52, 467, 622, 623, 624, 28, 625, 81, 626, 560, 561, 562, 272, 1120, 1121, 2, 1122, 1123, 1124, 1125, 51, 1126, 1127, 1128, 1129, 1130, 1131, 122, 123, 124, 126, 1418, 1419, 1420, 1421, 1422, 1423, 1424, 1425, 1426, 1427, 1428, 1429, 1430, 1431, 1432, 1433, 1434, 1435, 1515, 1516, 1517, 1518, 1519, 1520, 1521, 1492, 1493, 1494, 1495, 1496, 1497, 1498, 1499, 1500, 1501] (by decide +kernel) (by decide +kernel)
set_option maxRecDepth 20000 in
theorem gL_law_X11_seen : GoodIn wsL_law (wsV RL 136 RX11 yX11_seen wsX11_seen) := goodIn_app (goodIn_of _ (by decide +kernel)) ggL_law_X11_seen
set_option maxRecDepth 20000 in
theorem ggL_law_X12_seen : GoodIn wsL_law wsX12_seen := goodIn_r _ [1135, 519, 166, 167, 168, 169, 638, 639, 640, 5, 641, 584, 585, 586, 587, 517, 379, 380, 381, 522, 523, 524, 525, 157, 1436, 1437, 1438, 1439, 1440, 1441, 1442, 1443, 1444, 1445, 1446, 1447, 1448, 1449, 1450, 1451, 1452, 1453, 1454, 1455, 1456, 1457, 1458, 1459, 1460, 1461, 1462, 1463, 1464, 1465, 1466, 1467, 1468, 1469, 1470, 1471, 1472, 1473, 1474, 1475, 1476, 1477, 1478, 1479, 1480, 1481] (by decide +kernel) (by decide +kernel)
set_option maxRecDepth 20000 in
theorem gL_law_X12_seen : GoodIn wsL_law (wsV RL 140 RX12 yX12_seen wsX12_seen) := goodIn_app (goodIn_of _ (by decide +kernel)) ggL_law_X12_seen
set_option maxRecDepth 20000 in
theorem ggL_law_X11_fits : GoodIn wsL_law wsX11_fits := goodIn_r _ [1139, 29, 52, 559, 560, 561, 28, 562, 272, 1140, 1141, 1142, 51, 1143, 1127, 122, 123, 124, 126, 1144, 1145, 1146, 1147, 128, 127, 1148, 1149, 1150, 1151, 703, 704, 705, 84, 1152, 708, 709, 32, 710, 96, 101, 98, 99, 711, 646, 647, 648, 712, 650, 651, 713, 714, 715, 716, 102, 717, 718, 719, 720, 721, 722, 723, 724, 725, 726, 1418, 1419, 1420, 1421, 1422, 1423, 1424, 1425, 1426, 1427, 1428, 1429, 1430, 1431, 1432, 1433, 1434, 1435, 1492, 1493, 1494, 1495, 1496, 1497, 1498, 1499, 1500, 1501, 1515, 1516, 1517, 1518, 1519, 1520, 1521, 1502, 1503, 1504, 1505, 1506, 1507] (by decide +kernel) (by decide +kernel)
set_option maxRecDepth 20000 in
theorem gL_law_X11_fits : GoodIn wsL_law (wsV RL 141 RX11 yX11_fits wsX11_fits) := goodIn_app (goodIn_of _ (by decide +kernel)) ggL_law_X11_fits
set_option maxRecDepth 20000 in
theorem ggL_law_X12_fits : GoodIn wsL_law wsX12_fits := goodIn_r _ [1156, 584, 585, 586, 5, 587, 517, 379, 380, 381, 1157, 1158, 1159, 1160, 519, 166, 167, 168, 169, 1161, 1162, 1163, 1164, 156, 522, 523, 524, 525, 157, 759, 760, 761, 762, 763, 764, 765, 766, 161, 151, 645, 646, 647, 648, 649, 650, 651, 767, 768, 769, 770, 147, 148, 149, 150, 771, 772, 773, 774, 144, 152, 145, 775, 776, 777, 778, 779, 780, 781, 782, 783, 784, 785, 786, 787, 788, 1436, 1437, 1438, 1439, 1440, 1441, 1442, 1443, 1444, 1445, 1446, 1447, 1448, 1449, 1450, 1451, 1452, 1453, 1454, 1455, 1456, 1457, 1458, 1459, 1460, 1461, 1462, 1463, 1464, 1465, 1466, 1467, 1468, 1469, 1470, 1471, 1472, 1473, 1474, 1475, 1476, 1477, 1478, 1479, 1480, 1481] (by decide +kernel) (by decide +kernel)
set_option maxRecDepth 20000 in
theorem gL_law_X12_fits : GoodIn wsL_law (wsV RL 144 RX12 yX12_fits wsX12_fits) := goodIn_app (goodIn_of _ (by decide +kernel)) ggL_law_X12_fits
set_option maxRecDepth 20000 in
theorem ggL_law_X11_ask : GoodIn wsL_law wsX11_ask := goodIn_r _ [1168, 29, 52, 468, 559, 560, 561, 28, 562, 272, 1120, 1121, 2, 1122, 1169, 1170, 1171, 51, 1172, 1173, 1141, 1142, 1143, 1127, 122, 123, 124, 126, 1144, 1145, 1146, 1147, 128, 127, 1148, 1149, 1150, 1151, 703, 704, 705, 84, 1152, 708, 709, 32, 710, 96, 101, 98, 99, 711, 646, 647, 648, 712, 650, 651, 713, 714, 715, 716, 102, 717, 718, 719, 720, 721, 722, 723, 724, 725, 726, 622, 623, 624, 625, 81, 626, 1174, 1175, 1176, 1177, 1178, 1179, 1180, 1418, 1419, 1420, 1421, 1422, 1423, 1424, 1425, 1426, 1427, 1428, 1429, 1430, 1431, 1432, 1433, 1434, 1435, 1492, 1493, 1494, 1495, 1496, 1497, 1498, 1499, 1500, 1501, 1515, 1516, 1517, 1518, 1519, 1520, 1521, 1502, 1503, 1504, 1505, 1506, 1507] (by decide +kernel) (by decide +kernel)
set_option maxRecDepth 20000 in
theorem gL_law_X11_ask : GoodIn wsL_law (wsV RL 145 RX11 yX11_ask wsX11_ask) := goodIn_app (goodIn_of _ (by decide +kernel)) ggL_law_X11_ask
set_option maxRecDepth 20000 in
theorem ggL_law_X12_ask : GoodIn wsL_law wsX12_ask := goodIn_r _ [1184, 517, 1185, 1179, 647, 1180, 584, 585, 586, 5, 587, 379, 380, 381, 1186, 1154, 1155, 1156, 1157, 1158, 1159, 1160, 519, 166, 167, 168, 169, 1161, 1162, 1163, 1164, 156, 522, 523, 524, 525, 157, 759, 760, 761, 762, 763, 764, 765, 766, 161, 151, 645, 646, 648, 649, 650, 651, 767, 768, 769, 770, 147, 148, 149, 150, 771, 772, 773, 774, 144, 152, 145, 775, 776, 777, 778, 779, 780, 781, 782, 783, 784, 785, 786, 787, 788, 638, 639, 640, 641, 1436, 1437, 1438, 1439, 1440, 1441, 1442, 1443, 1444, 1445, 1446, 1447, 1448, 1449, 1450, 1451, 1452, 1453, 1454, 1455, 1456, 1457, 1458, 1459, 1460, 1461, 1462, 1463, 1464, 1465, 1466, 1467, 1468, 1469, 1470, 1471, 1472, 1473, 1474, 1475, 1476, 1477, 1478, 1479, 1480, 1481] (by decide +kernel) (by decide +kernel)
set_option maxRecDepth 20000 in
theorem gL_law_X12_ask : GoodIn wsL_law (wsV RL 148 RX12 yX12_ask wsX12_ask) := goodIn_app (goodIn_of _ (by decide +kernel)) ggL_law_X12_ask
set_option maxRecDepth 20000 in
theorem ggL_law_X11_game : GoodIn wsL_law wsX11_game := goodIn_r _ [1190, 1007, 29, 37, 530, 531, 532, 2, 533, 468, 1191, 1192, 1193, 28, 1194, 272, 81, 1195, 1196, 1197, 36, 1198, 108, 1199, 560, 561, 562, 1200, 1009, 1010, 1011, 685, 628, 629, 630, 107, 631, 632, 633, 692, 693, 694, 695, 696, 697, 698, 699, 109, 700, 564, 565, 566, 701, 568, 569, 570, 702, 703, 704, 705, 84, 706, 535, 536, 537, 707, 708, 709, 32, 710, 96, 101, 98, 99, 711, 646, 647, 648, 712, 650, 651, 713, 714, 715, 716, 102, 717, 718, 719, 720, 721, 722, 723, 724, 725, 726, 1418, 1419, 1420, 1421, 1422, 1423, 1424, 1425, 1426, 1427, 1428, 1429, 1430, 1431, 1432, 1433, 1434, 1435, 1492, 1493, 1494, 1495, 1496, 1497, 1498, 1499, 1500, 1501, 1508, 1509, 1510, 1502, 1503, 1504, 1505, 1506, 1507] (by decide +kernel) (by decide +kernel)
set_option maxRecDepth 20000 in
theorem gL_law_X11_game : GoodIn wsL_law (wsV RL 149 RX11 yX11_game wsX11_game) := goodIn_app (goodIn_of _ (by decide +kernel)) ggL_law_X11_game
set_option maxRecDepth 20000 in
theorem ggL_law_X12_game : GoodIn wsL_law wsX12_game := goodIn_r _ [1204, 517, 1016, 379, 380, 5, 381, 1205, 1206, 1207, 1208, 159, 1209, 1210, 1211, 1212, 522, 523, 524, 525, 157, 751, 752, 753, 754, 642, 643, 644, 645, 646, 647, 648, 649, 650, 651, 755, 756, 757, 758, 759, 760, 761, 762, 763, 764, 765, 766, 161, 151, 767, 768, 769, 770, 147, 148, 149, 150, 771, 772, 773, 774, 144, 152, 145, 775, 776, 777, 778, 779, 780, 781, 782, 783, 784, 785, 786, 787, 788, 1436, 1437, 1438, 1439, 1440, 1441, 1442, 1443, 1444, 1445, 1446, 1447, 1448, 1449, 1450, 1451, 1452, 1453, 1454, 1455, 1456, 1457, 1458, 1459, 1460, 1461, 1462, 1463, 1464, 1465, 1466, 1467, 1468, 1469, 1470, 1471, 1472, 1473, 1474, 1475, 1476, 1477, 1478, 1479, 1480, 1481] (by decide +kernel) (by decide +kernel)
set_option maxRecDepth 20000 in
theorem gL_law_X12_game : GoodIn wsL_law (wsV RL 152 RX12 yX12_game wsX12_game) := goodIn_app (goodIn_of _ (by decide +kernel)) ggL_law_X12_game
set_option maxRecDepth 20000 in
theorem ggL_law_X11_sure : GoodIn wsL_law wsX11_sure := goodIn_r _ [1216, 1007, 29, 468, 557, 1217, 650, 647, 651, 530, 531, 532, 2, 533, 1218, 1219, 1220, 1221, 37, 1222, 646, 648, 622, 623, 624, 28, 625, 81, 626, 560, 561, 562, 272, 1195, 1196, 1197, 36, 1198, 108, 1199, 1200, 1009, 1010, 1011, 685, 628, 629, 630, 107, 631, 632, 633, 692, 693, 694, 695, 696, 697, 698, 699, 109, 700, 564, 565, 566, 701, 568, 569, 570, 702, 703, 704, 705, 84, 706, 535, 536, 537, 707, 708, 709, 32, 710, 96, 101, 98, 99, 711, 712, 713, 714, 715, 716, 102, 717, 718, 719, 720, 721, 722, 723, 724, 725, 726, 1418, 1419, 1420, 1421, 1422, 1423, 1424, 1425, 1426, 1427, 1428, 1429, 1430, 1431, 1432, 1433, 1434, 1435, 1492, 1493, 1494, 1495, 1496, 1497, 1498, 1499, 1500, 1501, 1508, 1509, 1510, 1502, 1503, 1504, 1505, 1506, 1507] (by decide +kernel) (by decide +kernel)
set_option maxRecDepth 20000 in
theorem gL_law_X11_sure : GoodIn wsL_law (wsV RL 153 RX11 yX11_sure wsX11_sure) := goodIn_app (goodIn_of _ (by decide +kernel)) ggL_law_X11_sure
set_option maxRecDepth 20000 in
theorem ggL_law_X12_sure : GoodIn wsL_law wsX12_sure := goodIn_r _ [1226, 517, 1016, 649, 650, 647, 651, 379, 380, 5, 381, 1227, 1228, 1229, 1230, 522, 523, 524, 525, 157, 1231, 1232, 1233, 1234, 645, 646, 648, 1205, 1206, 1207, 1208, 159, 1209, 1210, 1211, 1212, 751, 752, 753, 754, 642, 643, 644, 755, 756, 757, 758, 759, 760, 761, 762, 763, 764, 765, 766, 161, 151, 767, 768, 769, 770, 147, 148, 149, 150, 771, 772, 773, 774, 144, 152, 145, 775, 776, 777, 778, 779, 780, 781, 782, 783, 784, 785, 786, 787, 788, 1436, 1437, 1438, 1439, 1440, 1441, 1442, 1443, 1444, 1445, 1446, 1447, 1448, 1449, 1450, 1451, 1452, 1453, 1454, 1455, 1456, 1457, 1458, 1459, 1460, 1461, 1462, 1463, 1464, 1465, 1466, 1467, 1468, 1469, 1470, 1471, 1472, 1473, 1474, 1475, 1476, 1477, 1478, 1479, 1480, 1481] (by decide +kernel) (by decide +kernel)
set_option maxRecDepth 20000 in
theorem gL_law_X12_sure : GoodIn wsL_law (wsV RL 156 RX12 yX12_sure wsX12_sure) := goodIn_app (goodIn_of _ (by decide +kernel)) ggL_law_X12_sure
set_option maxRecDepth 20000 in
theorem ggL_law_X11_rests : GoodIn wsL_law wsX11_rests := goodIn_r _ [1238, 29, 530, 531, 532, 2, 533, 468, 1239, 269, 270, 28, 271, 272, 81, 1191, 1192, 1193, 1194, 1240, 1241, 1242, 1243, 37, 557, 1195, 1196, 1197, 36, 1198, 108, 1199, 560, 561, 562, 1200, 1009, 1010, 1011, 685, 628, 629, 630, 107, 631, 632, 633, 692, 693, 694, 695, 696, 697, 698, 699, 109, 700, 564, 565, 566, 701, 568, 569, 570, 702, 703, 704, 705, 84, 706, 535, 536, 537, 707, 708, 709, 32, 710, 96, 101, 98, 99, 711, 646, 647, 648, 712, 650, 651, 713, 714, 715, 716, 102, 717, 718, 719, 720, 721, 722, 723, 724, 725, 726, 1418, 1419, 1420, 1421, 1422, 1423, 1424, 1425, 1426, 1427, 1428, 1429, 1430, 1431, 1432, 1433, 1434, 1435, 1492, 1493, 1494, 1495, 1496, 1497, 1498, 1499, 1500, 1501, 1508, 1509, 1510, 1502, 1503, 1504, 1505, 1506, 1507] (by decide +kernel) (by decide +kernel)
set_option maxRecDepth 20000 in
theorem gL_law_X11_rests : GoodIn wsL_law (wsV RL 157 RX11 yX11_rests wsX11_rests) := goodIn_app (goodIn_of _ (by decide +kernel)) ggL_law_X11_rests
set_option maxRecDepth 20000 in
theorem ggL_law_X12_rests : GoodIn wsL_law wsX12_rests := goodIn_r _ [1247, 517, 1227, 1228, 1229, 5, 1230, 522, 523, 524, 525, 157, 1248, 1249, 1250, 1251, 1205, 1206, 1207, 1208, 159, 1209, 1210, 1211, 1212, 751, 752, 753, 754, 642, 643, 644, 645, 646, 647, 648, 649, 650, 651, 755, 756, 757, 758, 759, 760, 761, 762, 763, 764, 765, 766, 161, 151, 767, 768, 769, 770, 147, 148, 149, 150, 771, 772, 773, 774, 144, 152, 145, 775, 776, 777, 778, 779, 780, 781, 782, 783, 784, 785, 786, 787, 788, 1436, 1437, 1438, 1439, 1440, 1441, 1442, 1443, 1444, 1445, 1446, 1447, 1448, 1449, 1450, 1451, 1452, 1453, 1454, 1455, 1456, 1457, 1458, 1459, 1460, 1461, 1462, 1463, 1464, 1465, 1466, 1467, 1468, 1469, 1470, 1471, 1472, 1473, 1474, 1475, 1476, 1477, 1478, 1479, 1480, 1481] (by decide +kernel) (by decide +kernel)
set_option maxRecDepth 20000 in
theorem gL_law_X12_rests : GoodIn wsL_law (wsV RL 160 RX12 yX12_rests wsX12_rests) := goodIn_app (goodIn_of _ (by decide +kernel)) ggL_law_X12_rests
set_option maxRecDepth 20000 in
theorem ggL_law_X11_odds : GoodIn wsL_law wsX11_odds := goodIn_r _ [1255, 29, 60, 37, 601, 602, 603, 604, 28, 605, 473, 622, 623, 624, 625, 81, 626, 560, 561, 562, 272, 1256, 1257, 1258, 59, 1259, 1260, 1261, 1262, 1263, 1264, 1265, 1266, 628, 629, 36, 630, 107, 631, 632, 633, 1267, 1268, 1269, 1270, 1271, 1272, 687, 688, 689, 690, 646, 647, 648, 691, 650, 651, 692, 693, 694, 695, 696, 697, 698, 699, 109, 108, 700, 564, 565, 566, 701, 568, 569, 570, 702, 703, 704, 705, 84, 706, 535, 536, 537, 707, 708, 709, 32, 710, 96, 101, 98, 99, 711, 712, 713, 714, 715, 716, 102, 717, 718, 719, 720, 721, 722, 723, 724, 725, 726, 1273, 1274, 1275, 1276, 1418, 1419, 1420, 1421, 1422, 1423, 1424, 1425, 1426, 1427, 1428, 1429, 1430, 1431, 1432, 1433, 1434, 1435, 1492, 1493, 1494, 1495, 1496, 1497, 1498, 1499, 1500, 1501, 1529, 1530, 1531, 1532, 1533, 1508, 1509, 1510, 1502, 1503, 1504, 1505, 1506, 1507] (by decide +kernel) (by decide +kernel)
set_option maxRecDepth 20000 in
theorem gL_law_X11_odds : GoodIn wsL_law (wsV RL 161 RX11 yX11_odds wsX11_odds) := goodIn_app (goodIn_of _ (by decide +kernel)) ggL_law_X11_odds
set_option maxRecDepth 20000 in
theorem ggL_law_X12_odds : GoodIn wsL_law wsX12_odds := goodIn_r _ [1280, 158, 159, 1281, 614, 615, 616, 5, 617, 518, 379, 380, 381, 638, 639, 640, 641, 584, 585, 586, 587, 517, 522, 523, 524, 525, 157, 642, 643, 644, 645, 646, 647, 648, 649, 650, 651, 1282, 1283, 1284, 1285, 1286, 755, 756, 757, 758, 759, 760, 761, 762, 763, 764, 765, 766, 161, 151, 767, 768, 769, 770, 147, 148, 149, 150, 771, 772, 773, 774, 144, 152, 145, 775, 776, 777, 778, 779, 780, 781, 782, 783, 784, 785, 786, 787, 788, 789, 790, 791, 1436, 1437, 1438, 1439, 1440, 1441, 1442, 1443, 1444, 1445, 1446, 1447, 1448, 1449, 1450, 1451, 1452, 1453, 1454, 1455, 1456, 1457, 1458, 1459, 1460, 1461, 1462, 1463, 1464, 1465, 1466, 1467, 1468, 1469, 1470, 1471, 1472, 1473, 1474, 1475, 1476, 1477, 1478, 1479, 1480, 1481] (by decide +kernel) (by decide +kernel)
set_option maxRecDepth 20000 in
theorem gL_law_X12_odds : GoodIn wsL_law (wsV RL 164 RX12 yX12_odds wsX12_odds) := goodIn_app (goodIn_of _ (by decide +kernel)) ggL_law_X12_odds
set_option maxRecDepth 20000 in
theorem ggL_law_X11_shares : GoodIn wsL_law wsX11_shares := goodIn_r _ [1290, 37, 530, 531, 532, 2, 533, 29, 468, 1291, 1292, 1293, 36, 1294, 108, 872, 1295, 700, 564, 565, 566, 107, 1418, 1419, 1420, 1421, 1422, 1423, 1424, 1425, 1426, 1427, 1428, 1429, 1430, 1431, 1432, 1433, 1434, 1435, 1492, 1493, 1494, 1495, 1496, 1497, 1498, 1499, 1500, 1501, 1508, 1509, 1510] (by decide +kernel) (by decide +kernel)
set_option maxRecDepth 20000 in
theorem gL_law_X11_shares : GoodIn wsL_law (wsV RL 165 RX11 yX11_shares wsX11_shares) := goodIn_app (goodIn_of _ (by decide +kernel)) ggL_law_X11_shares
set_option maxRecDepth 20000 in
theorem ggL_law_X12_shares : GoodIn wsL_law wsX12_shares := goodIn_r _ [1299, 517, 159, 379, 380, 5, 381, 522, 523, 524, 525, 157, 1436, 1437, 1438, 1439, 1440, 1441, 1442, 1443, 1444, 1445, 1446, 1447, 1448, 1449, 1450, 1451, 1452, 1453, 1454, 1455, 1456, 1457, 1458, 1459, 1460, 1461, 1462, 1463, 1464, 1465, 1466, 1467, 1468, 1469, 1470, 1471, 1472, 1473, 1474, 1475, 1476, 1477, 1478, 1479, 1480, 1481] (by decide +kernel) (by decide +kernel)
set_option maxRecDepth 20000 in
theorem gL_law_X12_shares : GoodIn wsL_law (wsV RL 168 RX12 yX12_shares wsX12_shares) := goodIn_app (goodIn_of _ (by decide +kernel)) ggL_law_X12_shares
set_option maxRecDepth 20000 in
theorem ggL_law_X11_most : GoodIn wsL_law wsX11_most := goodIn_r _ [1303, 37, 29, 530, 531, 532, 2, 533, 468, 873, 874, 875, 36, 876, 108, 872, 877, 572, 573, 574, 107, 1304, 1305, 1306, 1307, 732, 734, 607, 608, 609, 1308, 1309, 1310, 1311, 1312, 1313, 1314, 1315, 1316, 623, 624, 28, 625, 81, 626, 560, 561, 562, 272, 685, 628, 629, 630, 631, 632, 633, 1317, 1318, 1319, 1320, 1321, 1322, 1323, 1324, 1325, 1326, 1327, 1328, 1329, 1330, 1331, 1332, 1333, 1334, 1335, 1336, 473, 85, 1337, 1338, 1339, 1340, 1341, 1342, 1343, 1344, 1345, 733, 1346, 1418, 1419, 1420, 1421, 1422, 1423, 1424, 1425, 1426, 1427, 1428, 1429, 1430, 1431, 1432, 1433, 1434, 1435, 1492, 1493, 1494, 1495, 1496, 1497, 1498, 1499, 1500, 1501, 1508, 1509, 1510] (by decide +kernel) (by decide +kernel)
set_option maxRecDepth 20000 in
theorem gL_law_X11_most : GoodIn wsL_law (wsV RL 169 RX11 yX11_most wsX11_most) := goodIn_app (goodIn_of _ (by decide +kernel)) ggL_law_X11_most
set_option maxRecDepth 20000 in
theorem ggL_law_X12_most : GoodIn wsL_law wsX12_most := goodIn_r _ [1350, 517, 1351, 1352, 1353, 5, 1354, 588, 589, 590, 591, 159, 1355, 1356, 1357, 1358, 518, 1359, 1360, 1361, 1362, 638, 639, 640, 641, 584, 585, 586, 587, 379, 380, 381, 522, 523, 524, 525, 157, 642, 643, 644, 645, 646, 647, 648, 649, 650, 651, 796, 797, 798, 1363, 1364, 1365, 1366, 1367, 1368, 1369, 1370, 158, 1371, 1372, 1373, 1374, 1375, 1376, 1377, 1378, 1436, 1437, 1438, 1439, 1440, 1441, 1442, 1443, 1444, 1445, 1446, 1447, 1448, 1449, 1450, 1451, 1452, 1453, 1454, 1455, 1456, 1457, 1458, 1459, 1460, 1461, 1462, 1463, 1464, 1465, 1466, 1467, 1468, 1469, 1470, 1471, 1472, 1473, 1474, 1475, 1476, 1477, 1478, 1479, 1480, 1481] (by decide +kernel) (by decide +kernel)
set_option maxRecDepth 20000 in
theorem gL_law_X12_most : GoodIn wsL_law (wsV RL 172 RX12 yX12_most wsX12_most) := goodIn_app (goodIn_of _ (by decide +kernel)) ggL_law_X12_most
set_option maxRecDepth 20000 in
theorem ggL_law_X11_allies : GoodIn wsL_law wsX11_allies := goodIn_r _ [1382, 29, 468, 559, 560, 561, 28, 562, 272, 622, 623, 624, 625, 81, 626, 1383, 703, 704, 705, 84, 1418, 1419, 1420, 1421, 1422, 1423, 1424, 1425, 1426, 1427, 1428, 1429, 1430, 1431, 1432, 1433, 1434, 1435, 1492, 1493, 1494, 1495, 1496, 1497, 1498, 1499, 1500, 1501] (by decide +kernel) (by decide +kernel)
set_option maxRecDepth 20000 in
theorem gL_law_X11_allies : GoodIn wsL_law (wsV RL 173 RX11 yX11_allies wsX11_allies) := goodIn_app (goodIn_of _ (by decide +kernel)) ggL_law_X11_allies
set_option maxRecDepth 20000 in
theorem ggL_law_X12_allies : GoodIn wsL_law wsX12_allies := goodIn_r _ [1387, 517, 584, 585, 586, 5, 587, 379, 380, 381, 638, 639, 640, 641, 522, 523, 524, 525, 157, 759, 760, 761, 762, 1436, 1437, 1438, 1439, 1440, 1441, 1442, 1443, 1444, 1445, 1446, 1447, 1448, 1449, 1450, 1451, 1452, 1453, 1454, 1455, 1456, 1457, 1458, 1459, 1460, 1461, 1462, 1463, 1464, 1465, 1466, 1467, 1468, 1469, 1470, 1471, 1472, 1473, 1474, 1475, 1476, 1477, 1478, 1479, 1480, 1481] (by decide +kernel) (by decide +kernel)
set_option maxRecDepth 20000 in
theorem gL_law_X12_allies : GoodIn wsL_law (wsV RL 176 RX12 yX12_allies wsX12_allies) := goodIn_app (goodIn_of _ (by decide +kernel)) ggL_law_X12_allies
set_option maxRecDepth 20000 in
theorem ggL_law_X11_image : GoodIn wsL_law wsX11_image := goodIn_r _ [1391, 47, 37, 48, 42, 63, 530, 531, 532, 2, 533, 29, 468, 1090, 1091, 1092, 36, 1093, 107, 1094, 237, 238, 239, 1392, 1393, 1394, 41, 1395, 113, 1396, 863, 693, 694, 695, 1418, 1419, 1420, 1421, 1422, 1423, 1424, 1425, 1426, 1427, 1428, 1429, 1430, 1431, 1432, 1433, 1434, 1435, 1492, 1493, 1494, 1495, 1496, 1497, 1498, 1499, 1500, 1501, 1508, 1509, 1510, 1511] (by decide +kernel) (by decide +kernel)
set_option maxRecDepth 20000 in
theorem gL_law_X11_image : GoodIn wsL_law (wsV RL 177 RX11 yX11_image wsX11_image) := goodIn_app (goodIn_of _ (by decide +kernel)) ggL_law_X11_image
set_option maxRecDepth 20000 in
theorem ggL_law_X12_image : GoodIn wsL_law wsX12_image := goodIn_r _ [1400, 517, 170, 159, 521, 1436, 1437, 1438, 1439, 1440, 1441, 1442, 1443, 1444, 1445, 1446, 1447, 1448, 1449, 1450, 1451, 1452, 1453, 1454, 1455, 1456, 1457, 1458, 1459, 1460, 1461, 1462, 1463, 1464, 1465, 1466, 1467, 1468, 1469, 1470, 1471, 1472, 1473, 1474, 1475, 1476, 1477, 1478, 1479, 1480, 1481] (by decide +kernel) (by decide +kernel)
set_option maxRecDepth 20000 in
theorem gL_law_X12_image : GoodIn wsL_law (wsV RL 180 RX12 yX12_image wsX12_image) := goodIn_app (goodIn_of _ (by decide +kernel)) ggL_law_X12_image
set_option maxRecDepth 20000 in
theorem ggL_law_X11_back : GoodIn wsL_law wsX11_back := goodIn_r _ [1404, 63, 37, 47, 42, 48, 46, 1090, 1091, 1092, 36, 1093, 107, 1094, 237, 238, 239, 1392, 1393, 1394, 41, 1395, 113, 1396, 485, 486, 487, 45, 488, 489, 863, 693, 694, 695, 1418, 1419, 1420, 1421, 1422, 1423, 1424, 1425, 1426, 1427, 1428, 1429, 1430, 1431, 1432, 1433, 1434, 1435, 1508, 1509, 1510, 1511, 1512, 1513, 1514] (by decide +kernel) (by decide +kernel)
set_option maxRecDepth 20000 in
theorem gL_law_X11_back : GoodIn wsL_law (wsV RL 181 RX11 yX11_back wsX11_back) := goodIn_app (goodIn_of _ (by decide +kernel)) ggL_law_X11_back
set_option maxRecDepth 20000 in
theorem ggL_law_X12_back : GoodIn wsL_law wsX12_back := goodIn_r _ [1408, 521, 159, 170, 520, 1436, 1437, 1438, 1439, 1440, 1441, 1442, 1443, 1444, 1445, 1446, 1447, 1448, 1449, 1450, 1451, 1452, 1453, 1454, 1455, 1456, 1457, 1458, 1459, 1460, 1461, 1462, 1463, 1464, 1465, 1466, 1467, 1468, 1469, 1470, 1471, 1472, 1473, 1474, 1475, 1476, 1477, 1478, 1479, 1480, 1481] (by decide +kernel) (by decide +kernel)
set_option maxRecDepth 20000 in
theorem gL_law_X12_back : GoodIn wsL_law (wsV RL 184 RX12 yX12_back wsX12_back) := goodIn_app (goodIn_of _ (by decide +kernel)) ggL_law_X12_back
set_option maxRecDepth 20000 in
theorem ggL_law_X11_count : GoodIn wsL_law wsX11_count := goodIn_r _ [1412, 29, 468, 1413, 33, 496, 17, 175, 656, 37, 64, 52, 467, 46, 978, 1007, 863, 693, 694, 36, 695, 107, 889, 890, 891, 892, 873, 874, 875, 876, 108, 872, 877, 572, 573, 574, 878, 879, 880, 881, 882, 883, 884, 991, 992, 41, 993, 994, 646, 647, 648, 1418, 1419, 1420, 1421, 1422, 1423, 1424, 1425, 1426, 1427, 1428, 1429, 1430, 1431, 1432, 1433, 1434, 1435, 1492, 1493, 1494, 1495, 1496, 1497, 1498, 1499, 1500, 1501, 1502, 1503, 1504, 1505, 1506, 1507, 1482, 1483, 1484, 1515, 1516, 1517, 1518, 1519, 1520, 1521, 1512, 1513, 1514, 1508, 1509, 1510] (by decide +kernel) (by decide +kernel)
set_option maxRecDepth 20000 in
theorem gL_law_X11_count : GoodIn wsL_law (wsV RL 185 RX11 yX11_count wsX11_count) := goodIn_app (goodIn_of _ (by decide +kernel)) ggL_law_X11_count
set_option maxRecDepth 20000 in
theorem ggL_law_X12_count : GoodIn wsL_law wsX12_count := goodIn_r _ [1417, 517, 518, 512, 188, 161, 159, 162, 519, 520, 1016, 925, 926, 927, 5, 928, 913, 914, 915, 916, 588, 589, 590, 591, 1436, 1437, 1438, 1439, 1440, 1441, 1442, 1443, 1444, 1445, 1446, 1447, 1448, 1449, 1450, 1451, 1452, 1453, 1454, 1455, 1456, 1457, 1458, 1459, 1460, 1461, 1462, 1463, 1464, 1465, 1466, 1467, 1468, 1469, 1470, 1471, 1472, 1473, 1474, 1475, 1476, 1477, 1478, 1479, 1480, 1481] (by decide +kernel) (by decide +kernel)
set_option maxRecDepth 20000 in
theorem gL_law_X12_count : GoodIn wsL_law (wsV RL 188 RX12 yX12_count wsX12_count) := goodIn_app (goodIn_of _ (by decide +kernel)) ggL_law_X12_count
theorem dL_law_0 : decode cL_law 0 = .ok (.new 8, 3) := by decide +kernel
theorem dL_law_3 : decode cL_law 3 = .ok (.dup, 1) := by decide +kernel
theorem dL_law_4 : decode cL_law 4 = .ok (.invokespecial 15, 3) := by decide +kernel
theorem dL_law_7 : decode cL_law 7 = .ok (.astore_n 1, 1) := by decide +kernel
theorem dL_law_8 : decode cL_law 8 = .ok (.new 16, 3) := by decide +kernel
theorem dL_law_11 : decode cL_law 11 = .ok (.dup, 1) := by decide +kernel
theorem dL_law_12 : decode cL_law 12 = .ok (.invokespecial 18, 3) := by decide +kernel
theorem dL_law_15 : decode cL_law 15 = .ok (.astore_n 2, 1) := by decide +kernel
theorem dL_law_16 : decode cL_law 16 = .ok (.iconst 1, 1) := by decide +kernel
theorem dL_law_17 : decode cL_law 17 = .ok (.newarray .long, 2) := by decide +kernel
theorem dL_law_19 : decode cL_law 19 = .ok (.astore_n 3, 1) := by decide +kernel
theorem dL_law_20 : decode cL_law 20 = .ok (.iconst 0, 1) := by decide +kernel
theorem dL_law_21 : decode cL_law 21 = .ok (.istore 4, 2) := by decide +kernel
theorem dL_law_23 : decode cL_law 23 = .ok (.iload 4, 2) := by decide +kernel
theorem dL_law_25 : decode cL_law 25 = .ok (.aload_n 0, 1) := by decide +kernel
theorem dL_law_26 : decode cL_law 26 = .ok (.arraylength, 1) := by decide +kernel
theorem dL_law_27 : decode cL_law 27 = .ok (.bipush 6, 2) := by decide +kernel
theorem dL_law_29 : decode cL_law 29 = .ok (.isub, 1) := by decide +kernel
theorem dL_law_30 : decode cL_law 30 = .ok (.if_icmp .gt 1506, 3) := by decide +kernel
theorem dL_law_33 : decode cL_law 33 = .ok (.aload_n 0, 1) := by decide +kernel
theorem dL_law_34 : decode cL_law 34 = .ok (.iload 4, 2) := by decide +kernel
theorem dL_law_36 : decode cL_law 36 = .ok (.iaload, 1) := by decide +kernel
theorem dL_law_37 : decode cL_law 37 = .ok (.bipush 63, 2) := by decide +kernel
theorem dL_law_39 : decode cL_law 39 = .ok (.iand, 1) := by decide +kernel
theorem dL_law_40 : decode cL_law 40 = .ok (.tableswitch 1490 0 38 #[172, 245, 270, 295, 320, 345, 413, 450, 487, 512, 549, 574, 611, 624, 649, 674, 699, 724, 793, 818, 831, 868, 905, 954, 991, 1016, 1029, 1106, 1143, 1180, 1229, 1254, 1279, 1352, 1389, 1414, 1439, 1452, 1465], 172) := by decide +kernel
theorem dL_law_212 : decode cL_law 212 = .ok (.aload_n 1, 1) := by decide +kernel
theorem dL_law_213 : decode cL_law 213 = .ok (.aload_n 0, 1) := by decide +kernel
theorem dL_law_214 : decode cL_law 214 = .ok (.iload 4, 2) := by decide +kernel
theorem dL_law_216 : decode cL_law 216 = .ok (.iconst 1, 1) := by decide +kernel
theorem dL_law_217 : decode cL_law 217 = .ok (.iadd, 1) := by decide +kernel
theorem dL_law_218 : decode cL_law 218 = .ok (.iaload, 1) := by decide +kernel
theorem dL_law_219 : decode cL_law 219 = .ok (.aload_n 0, 1) := by decide +kernel
theorem dL_law_220 : decode cL_law 220 = .ok (.iload 4, 2) := by decide +kernel
theorem dL_law_222 : decode cL_law 222 = .ok (.iconst 2, 1) := by decide +kernel
theorem dL_law_223 : decode cL_law 223 = .ok (.iadd, 1) := by decide +kernel
theorem dL_law_224 : decode cL_law 224 = .ok (.iaload, 1) := by decide +kernel
theorem dL_law_225 : decode cL_law 225 = .ok (.aload_n 0, 1) := by decide +kernel
theorem dL_law_226 : decode cL_law 226 = .ok (.iload 4, 2) := by decide +kernel
theorem dL_law_228 : decode cL_law 228 = .ok (.iconst 3, 1) := by decide +kernel
theorem dL_law_229 : decode cL_law 229 = .ok (.iadd, 1) := by decide +kernel
theorem dL_law_230 : decode cL_law 230 = .ok (.iaload, 1) := by decide +kernel
theorem dL_law_231 : decode cL_law 231 = .ok (.aload_n 0, 1) := by decide +kernel
theorem dL_law_232 : decode cL_law 232 = .ok (.iload 4, 2) := by decide +kernel
theorem dL_law_234 : decode cL_law 234 = .ok (.iconst 4, 1) := by decide +kernel
theorem dL_law_235 : decode cL_law 235 = .ok (.iadd, 1) := by decide +kernel
theorem dL_law_236 : decode cL_law 236 = .ok (.iaload, 1) := by decide +kernel
theorem dL_law_237 : decode cL_law 237 = .ok (.aload_n 0, 1) := by decide +kernel
theorem dL_law_238 : decode cL_law 238 = .ok (.iload 4, 2) := by decide +kernel
theorem dL_law_240 : decode cL_law 240 = .ok (.iconst 5, 1) := by decide +kernel
theorem dL_law_241 : decode cL_law 241 = .ok (.iadd, 1) := by decide +kernel
theorem dL_law_242 : decode cL_law 242 = .ok (.iaload, 1) := by decide +kernel
theorem dL_law_243 : decode cL_law 243 = .ok (.invokevirtual 19, 3) := by decide +kernel
theorem dL_law_246 : decode cL_law 246 = .ok (.aload_n 2, 1) := by decide +kernel
theorem dL_law_247 : decode cL_law 247 = .ok (.aload_n 0, 1) := by decide +kernel
theorem dL_law_248 : decode cL_law 248 = .ok (.iload 4, 2) := by decide +kernel
theorem dL_law_250 : decode cL_law 250 = .ok (.iconst 1, 1) := by decide +kernel
theorem dL_law_251 : decode cL_law 251 = .ok (.iadd, 1) := by decide +kernel
theorem dL_law_252 : decode cL_law 252 = .ok (.iaload, 1) := by decide +kernel
theorem dL_law_253 : decode cL_law 253 = .ok (.aload_n 0, 1) := by decide +kernel
theorem dL_law_254 : decode cL_law 254 = .ok (.iload 4, 2) := by decide +kernel
theorem dL_law_256 : decode cL_law 256 = .ok (.iconst 2, 1) := by decide +kernel
theorem dL_law_257 : decode cL_law 257 = .ok (.iadd, 1) := by decide +kernel
theorem dL_law_258 : decode cL_law 258 = .ok (.iaload, 1) := by decide +kernel
theorem dL_law_259 : decode cL_law 259 = .ok (.aload_n 0, 1) := by decide +kernel
theorem dL_law_260 : decode cL_law 260 = .ok (.iload 4, 2) := by decide +kernel
theorem dL_law_262 : decode cL_law 262 = .ok (.iconst 3, 1) := by decide +kernel
theorem dL_law_263 : decode cL_law 263 = .ok (.iadd, 1) := by decide +kernel
theorem dL_law_264 : decode cL_law 264 = .ok (.iaload, 1) := by decide +kernel
theorem dL_law_265 : decode cL_law 265 = .ok (.aload_n 0, 1) := by decide +kernel
theorem dL_law_266 : decode cL_law 266 = .ok (.iload 4, 2) := by decide +kernel
theorem dL_law_268 : decode cL_law 268 = .ok (.iconst 4, 1) := by decide +kernel
theorem dL_law_269 : decode cL_law 269 = .ok (.iadd, 1) := by decide +kernel
theorem dL_law_270 : decode cL_law 270 = .ok (.iaload, 1) := by decide +kernel
theorem dL_law_271 : decode cL_law 271 = .ok (.aload_n 0, 1) := by decide +kernel
theorem dL_law_272 : decode cL_law 272 = .ok (.iload 4, 2) := by decide +kernel
theorem dL_law_274 : decode cL_law 274 = .ok (.iconst 5, 1) := by decide +kernel
theorem dL_law_275 : decode cL_law 275 = .ok (.iadd, 1) := by decide +kernel
theorem dL_law_276 : decode cL_law 276 = .ok (.iaload, 1) := by decide +kernel
theorem dL_law_277 : decode cL_law 277 = .ok (.invokevirtual 23, 3) := by decide +kernel
theorem dL_law_280 : decode cL_law 280 = .ok (.if_icmp .eq 1250, 3) := by decide +kernel
theorem dL_law_283 : decode cL_law 283 = .ok (.iconst 0, 1) := by decide +kernel
theorem dL_law_284 : decode cL_law 284 = .ok (.ireturn, 1) := by decide +kernel
theorem dL_law_285 : decode cL_law 285 = .ok (.aload_n 1, 1) := by decide +kernel
theorem dL_law_286 : decode cL_law 286 = .ok (.aload_n 0, 1) := by decide +kernel
theorem dL_law_287 : decode cL_law 287 = .ok (.iload 4, 2) := by decide +kernel
theorem dL_law_289 : decode cL_law 289 = .ok (.iconst 1, 1) := by decide +kernel
theorem dL_law_290 : decode cL_law 290 = .ok (.iadd, 1) := by decide +kernel
theorem dL_law_291 : decode cL_law 291 = .ok (.iaload, 1) := by decide +kernel
theorem dL_law_292 : decode cL_law 292 = .ok (.invokevirtual 24, 3) := by decide +kernel
theorem dL_law_295 : decode cL_law 295 = .ok (.aload_n 2, 1) := by decide +kernel
theorem dL_law_296 : decode cL_law 296 = .ok (.aload_n 0, 1) := by decide +kernel
theorem dL_law_297 : decode cL_law 297 = .ok (.iload 4, 2) := by decide +kernel
theorem dL_law_299 : decode cL_law 299 = .ok (.iconst 1, 1) := by decide +kernel
theorem dL_law_300 : decode cL_law 300 = .ok (.iadd, 1) := by decide +kernel
theorem dL_law_301 : decode cL_law 301 = .ok (.iaload, 1) := by decide +kernel
theorem dL_law_302 : decode cL_law 302 = .ok (.invokevirtual 28, 3) := by decide +kernel
theorem dL_law_305 : decode cL_law 305 = .ok (.if_icmp .eq 1225, 3) := by decide +kernel
theorem dL_law_308 : decode cL_law 308 = .ok (.iconst 0, 1) := by decide +kernel
theorem dL_law_309 : decode cL_law 309 = .ok (.ireturn, 1) := by decide +kernel
theorem dL_law_310 : decode cL_law 310 = .ok (.aload_n 1, 1) := by decide +kernel
theorem dL_law_311 : decode cL_law 311 = .ok (.aload_n 0, 1) := by decide +kernel
theorem dL_law_312 : decode cL_law 312 = .ok (.iload 4, 2) := by decide +kernel
theorem dL_law_314 : decode cL_law 314 = .ok (.iconst 1, 1) := by decide +kernel
theorem dL_law_315 : decode cL_law 315 = .ok (.iadd, 1) := by decide +kernel
theorem dL_law_316 : decode cL_law 316 = .ok (.iaload, 1) := by decide +kernel
theorem dL_law_317 : decode cL_law 317 = .ok (.invokevirtual 29, 3) := by decide +kernel
theorem dL_law_320 : decode cL_law 320 = .ok (.aload_n 2, 1) := by decide +kernel
theorem dL_law_321 : decode cL_law 321 = .ok (.aload_n 0, 1) := by decide +kernel
theorem dL_law_322 : decode cL_law 322 = .ok (.iload 4, 2) := by decide +kernel
theorem dL_law_324 : decode cL_law 324 = .ok (.iconst 1, 1) := by decide +kernel
theorem dL_law_325 : decode cL_law 325 = .ok (.iadd, 1) := by decide +kernel
theorem dL_law_326 : decode cL_law 326 = .ok (.iaload, 1) := by decide +kernel
theorem dL_law_327 : decode cL_law 327 = .ok (.invokevirtual 33, 3) := by decide +kernel
theorem dL_law_330 : decode cL_law 330 = .ok (.if_icmp .eq 1200, 3) := by decide +kernel
theorem dL_law_333 : decode cL_law 333 = .ok (.iconst 0, 1) := by decide +kernel
theorem dL_law_334 : decode cL_law 334 = .ok (.ireturn, 1) := by decide +kernel
theorem dL_law_335 : decode cL_law 335 = .ok (.aload_n 1, 1) := by decide +kernel
theorem dL_law_336 : decode cL_law 336 = .ok (.aload_n 0, 1) := by decide +kernel
theorem dL_law_337 : decode cL_law 337 = .ok (.iload 4, 2) := by decide +kernel
theorem dL_law_339 : decode cL_law 339 = .ok (.iconst 1, 1) := by decide +kernel
theorem dL_law_340 : decode cL_law 340 = .ok (.iadd, 1) := by decide +kernel
theorem dL_law_341 : decode cL_law 341 = .ok (.iaload, 1) := by decide +kernel
theorem dL_law_342 : decode cL_law 342 = .ok (.invokevirtual 34, 3) := by decide +kernel
theorem dL_law_345 : decode cL_law 345 = .ok (.aload_n 2, 1) := by decide +kernel
theorem dL_law_346 : decode cL_law 346 = .ok (.aload_n 0, 1) := by decide +kernel
theorem dL_law_347 : decode cL_law 347 = .ok (.iload 4, 2) := by decide +kernel
theorem dL_law_349 : decode cL_law 349 = .ok (.iconst 1, 1) := by decide +kernel
theorem dL_law_350 : decode cL_law 350 = .ok (.iadd, 1) := by decide +kernel
theorem dL_law_351 : decode cL_law 351 = .ok (.iaload, 1) := by decide +kernel
theorem dL_law_352 : decode cL_law 352 = .ok (.invokevirtual 37, 3) := by decide +kernel
theorem dL_law_355 : decode cL_law 355 = .ok (.if_icmp .eq 1175, 3) := by decide +kernel
theorem dL_law_358 : decode cL_law 358 = .ok (.iconst 0, 1) := by decide +kernel
theorem dL_law_359 : decode cL_law 359 = .ok (.ireturn, 1) := by decide +kernel
theorem dL_law_360 : decode cL_law 360 = .ok (.aload_n 1, 1) := by decide +kernel
theorem dL_law_361 : decode cL_law 361 = .ok (.aload_n 0, 1) := by decide +kernel
theorem dL_law_362 : decode cL_law 362 = .ok (.iload 4, 2) := by decide +kernel
theorem dL_law_364 : decode cL_law 364 = .ok (.iconst 1, 1) := by decide +kernel
theorem dL_law_365 : decode cL_law 365 = .ok (.iadd, 1) := by decide +kernel
theorem dL_law_366 : decode cL_law 366 = .ok (.iaload, 1) := by decide +kernel
theorem dL_law_367 : decode cL_law 367 = .ok (.invokevirtual 38, 3) := by decide +kernel
theorem dL_law_370 : decode cL_law 370 = .ok (.aload_n 2, 1) := by decide +kernel
theorem dL_law_371 : decode cL_law 371 = .ok (.aload_n 0, 1) := by decide +kernel
theorem dL_law_372 : decode cL_law 372 = .ok (.iload 4, 2) := by decide +kernel
theorem dL_law_374 : decode cL_law 374 = .ok (.iconst 1, 1) := by decide +kernel
theorem dL_law_375 : decode cL_law 375 = .ok (.iadd, 1) := by decide +kernel
theorem dL_law_376 : decode cL_law 376 = .ok (.iaload, 1) := by decide +kernel
theorem dL_law_377 : decode cL_law 377 = .ok (.invokevirtual 41, 3) := by decide +kernel
theorem dL_law_380 : decode cL_law 380 = .ok (.if_icmp .eq 1150, 3) := by decide +kernel
theorem dL_law_383 : decode cL_law 383 = .ok (.iconst 0, 1) := by decide +kernel
theorem dL_law_384 : decode cL_law 384 = .ok (.ireturn, 1) := by decide +kernel
theorem dL_law_385 : decode cL_law 385 = .ok (.aload_n 1, 1) := by decide +kernel
theorem dL_law_386 : decode cL_law 386 = .ok (.aload_n 0, 1) := by decide +kernel
theorem dL_law_387 : decode cL_law 387 = .ok (.iload 4, 2) := by decide +kernel
theorem dL_law_389 : decode cL_law 389 = .ok (.iconst 1, 1) := by decide +kernel
theorem dL_law_390 : decode cL_law 390 = .ok (.iadd, 1) := by decide +kernel
theorem dL_law_391 : decode cL_law 391 = .ok (.iaload, 1) := by decide +kernel
theorem dL_law_392 : decode cL_law 392 = .ok (.aload_n 0, 1) := by decide +kernel
theorem dL_law_393 : decode cL_law 393 = .ok (.iload 4, 2) := by decide +kernel
theorem dL_law_395 : decode cL_law 395 = .ok (.iconst 2, 1) := by decide +kernel
theorem dL_law_396 : decode cL_law 396 = .ok (.iadd, 1) := by decide +kernel
theorem dL_law_397 : decode cL_law 397 = .ok (.iaload, 1) := by decide +kernel
theorem dL_law_398 : decode cL_law 398 = .ok (.aload_n 3, 1) := by decide +kernel
theorem dL_law_399 : decode cL_law 399 = .ok (.invokestatic 42, 3) := by decide +kernel
theorem dL_law_402 : decode cL_law 402 = .ok (.istore 5, 2) := by decide +kernel
theorem dL_law_404 : decode cL_law 404 = .ok (.aload_n 2, 1) := by decide +kernel
theorem dL_law_405 : decode cL_law 405 = .ok (.aload_n 0, 1) := by decide +kernel
theorem dL_law_406 : decode cL_law 406 = .ok (.iload 4, 2) := by decide +kernel
theorem dL_law_408 : decode cL_law 408 = .ok (.iconst 1, 1) := by decide +kernel
theorem dL_law_409 : decode cL_law 409 = .ok (.iadd, 1) := by decide +kernel
theorem dL_law_410 : decode cL_law 410 = .ok (.iaload, 1) := by decide +kernel
theorem dL_law_411 : decode cL_law 411 = .ok (.aload_n 0, 1) := by decide +kernel
theorem dL_law_412 : decode cL_law 412 = .ok (.iload 4, 2) := by decide +kernel
theorem dL_law_414 : decode cL_law 414 = .ok (.iconst 2, 1) := by decide +kernel
theorem dL_law_415 : decode cL_law 415 = .ok (.iadd, 1) := by decide +kernel
theorem dL_law_416 : decode cL_law 416 = .ok (.iaload, 1) := by decide +kernel
theorem dL_law_417 : decode cL_law 417 = .ok (.invokevirtual 47, 3) := by decide +kernel
theorem dL_law_420 : decode cL_law 420 = .ok (.istore 6, 2) := by decide +kernel
theorem dL_law_422 : decode cL_law 422 = .ok (.aload_n 2, 1) := by decide +kernel
theorem dL_law_423 : decode cL_law 423 = .ok (.invokevirtual 48, 3) := by decide +kernel
theorem dL_law_426 : decode cL_law 426 = .ok (.iload 5, 2) := by decide +kernel
theorem dL_law_428 : decode cL_law 428 = .ok (.if_icmp .eq 5, 3) := by decide +kernel
theorem dL_law_431 : decode cL_law 431 = .ok (.iconst 0, 1) := by decide +kernel
theorem dL_law_432 : decode cL_law 432 = .ok (.ireturn, 1) := by decide +kernel
theorem dL_law_433 : decode cL_law 433 = .ok (.iload 5, 2) := by decide +kernel
theorem dL_law_435 : decode cL_law 435 = .ok (.ifCond .ne 15, 3) := by decide +kernel
theorem dL_law_438 : decode cL_law 438 = .ok (.aload_n 3, 1) := by decide +kernel
theorem dL_law_439 : decode cL_law 439 = .ok (.iconst 0, 1) := by decide +kernel
theorem dL_law_440 : decode cL_law 440 = .ok (.laload, 1) := by decide +kernel
theorem dL_law_441 : decode cL_law 441 = .ok (.iload 6, 2) := by decide +kernel
theorem dL_law_443 : decode cL_law 443 = .ok (.i2l, 1) := by decide +kernel
theorem dL_law_444 : decode cL_law 444 = .ok (.lcmp, 1) := by decide +kernel
theorem dL_law_445 : decode cL_law 445 = .ok (.ifCond .eq 5, 3) := by decide +kernel
theorem dL_law_448 : decode cL_law 448 = .ok (.iconst 0, 1) := by decide +kernel
theorem dL_law_449 : decode cL_law 449 = .ok (.ireturn, 1) := by decide +kernel
theorem dL_law_450 : decode cL_law 450 = .ok (.goto 1080, 3) := by decide +kernel
theorem dL_law_453 : decode cL_law 453 = .ok (.aload_n 1, 1) := by decide +kernel
theorem dL_law_454 : decode cL_law 454 = .ok (.aload_n 0, 1) := by decide +kernel
theorem dL_law_455 : decode cL_law 455 = .ok (.iload 4, 2) := by decide +kernel
theorem dL_law_457 : decode cL_law 457 = .ok (.iconst 1, 1) := by decide +kernel
theorem dL_law_458 : decode cL_law 458 = .ok (.iadd, 1) := by decide +kernel
theorem dL_law_459 : decode cL_law 459 = .ok (.iaload, 1) := by decide +kernel
theorem dL_law_460 : decode cL_law 460 = .ok (.aload_n 0, 1) := by decide +kernel
theorem dL_law_461 : decode cL_law 461 = .ok (.iload 4, 2) := by decide +kernel
theorem dL_law_463 : decode cL_law 463 = .ok (.iconst 2, 1) := by decide +kernel
theorem dL_law_464 : decode cL_law 464 = .ok (.iadd, 1) := by decide +kernel
theorem dL_law_465 : decode cL_law 465 = .ok (.iaload, 1) := by decide +kernel
theorem dL_law_466 : decode cL_law 466 = .ok (.invokevirtual 52, 3) := by decide +kernel
theorem dL_law_469 : decode cL_law 469 = .ok (.aload_n 2, 1) := by decide +kernel
theorem dL_law_470 : decode cL_law 470 = .ok (.aload_n 0, 1) := by decide +kernel
theorem dL_law_471 : decode cL_law 471 = .ok (.iload 4, 2) := by decide +kernel
theorem dL_law_473 : decode cL_law 473 = .ok (.iconst 1, 1) := by decide +kernel
theorem dL_law_474 : decode cL_law 474 = .ok (.iadd, 1) := by decide +kernel
theorem dL_law_475 : decode cL_law 475 = .ok (.iaload, 1) := by decide +kernel
theorem dL_law_476 : decode cL_law 476 = .ok (.aload_n 0, 1) := by decide +kernel
theorem dL_law_477 : decode cL_law 477 = .ok (.iload 4, 2) := by decide +kernel
theorem dL_law_479 : decode cL_law 479 = .ok (.iconst 2, 1) := by decide +kernel
theorem dL_law_480 : decode cL_law 480 = .ok (.iadd, 1) := by decide +kernel
theorem dL_law_481 : decode cL_law 481 = .ok (.iaload, 1) := by decide +kernel
theorem dL_law_482 : decode cL_law 482 = .ok (.invokevirtual 55, 3) := by decide +kernel
theorem dL_law_485 : decode cL_law 485 = .ok (.if_icmp .eq 1045, 3) := by decide +kernel
theorem dL_law_488 : decode cL_law 488 = .ok (.iconst 0, 1) := by decide +kernel
theorem dL_law_489 : decode cL_law 489 = .ok (.ireturn, 1) := by decide +kernel
theorem dL_law_490 : decode cL_law 490 = .ok (.aload_n 1, 1) := by decide +kernel
theorem dL_law_491 : decode cL_law 491 = .ok (.aload_n 0, 1) := by decide +kernel
theorem dL_law_492 : decode cL_law 492 = .ok (.iload 4, 2) := by decide +kernel
theorem dL_law_494 : decode cL_law 494 = .ok (.iconst 1, 1) := by decide +kernel
theorem dL_law_495 : decode cL_law 495 = .ok (.iadd, 1) := by decide +kernel
theorem dL_law_496 : decode cL_law 496 = .ok (.iaload, 1) := by decide +kernel
theorem dL_law_497 : decode cL_law 497 = .ok (.aload_n 0, 1) := by decide +kernel
theorem dL_law_498 : decode cL_law 498 = .ok (.iload 4, 2) := by decide +kernel
theorem dL_law_500 : decode cL_law 500 = .ok (.iconst 2, 1) := by decide +kernel
theorem dL_law_501 : decode cL_law 501 = .ok (.iadd, 1) := by decide +kernel
theorem dL_law_502 : decode cL_law 502 = .ok (.iaload, 1) := by decide +kernel
theorem dL_law_503 : decode cL_law 503 = .ok (.invokevirtual 56, 3) := by decide +kernel
theorem dL_law_506 : decode cL_law 506 = .ok (.aload_n 2, 1) := by decide +kernel
theorem dL_law_507 : decode cL_law 507 = .ok (.aload_n 0, 1) := by decide +kernel
theorem dL_law_508 : decode cL_law 508 = .ok (.iload 4, 2) := by decide +kernel
theorem dL_law_510 : decode cL_law 510 = .ok (.iconst 1, 1) := by decide +kernel
theorem dL_law_511 : decode cL_law 511 = .ok (.iadd, 1) := by decide +kernel
theorem dL_law_512 : decode cL_law 512 = .ok (.iaload, 1) := by decide +kernel
theorem dL_law_513 : decode cL_law 513 = .ok (.aload_n 0, 1) := by decide +kernel
theorem dL_law_514 : decode cL_law 514 = .ok (.iload 4, 2) := by decide +kernel
theorem dL_law_516 : decode cL_law 516 = .ok (.iconst 2, 1) := by decide +kernel
theorem dL_law_517 : decode cL_law 517 = .ok (.iadd, 1) := by decide +kernel
theorem dL_law_518 : decode cL_law 518 = .ok (.iaload, 1) := by decide +kernel
theorem dL_law_519 : decode cL_law 519 = .ok (.invokevirtual 59, 3) := by decide +kernel
theorem dL_law_522 : decode cL_law 522 = .ok (.if_icmp .eq 1008, 3) := by decide +kernel
theorem dL_law_525 : decode cL_law 525 = .ok (.iconst 0, 1) := by decide +kernel
theorem dL_law_526 : decode cL_law 526 = .ok (.ireturn, 1) := by decide +kernel
theorem dL_law_527 : decode cL_law 527 = .ok (.aload_n 1, 1) := by decide +kernel
theorem dL_law_528 : decode cL_law 528 = .ok (.aload_n 0, 1) := by decide +kernel
theorem dL_law_529 : decode cL_law 529 = .ok (.iload 4, 2) := by decide +kernel
theorem dL_law_531 : decode cL_law 531 = .ok (.iconst 1, 1) := by decide +kernel
theorem dL_law_532 : decode cL_law 532 = .ok (.iadd, 1) := by decide +kernel
theorem dL_law_533 : decode cL_law 533 = .ok (.iaload, 1) := by decide +kernel
theorem dL_law_534 : decode cL_law 534 = .ok (.invokevirtual 60, 3) := by decide +kernel
theorem dL_law_537 : decode cL_law 537 = .ok (.aload_n 2, 1) := by decide +kernel
theorem dL_law_538 : decode cL_law 538 = .ok (.aload_n 0, 1) := by decide +kernel
theorem dL_law_539 : decode cL_law 539 = .ok (.iload 4, 2) := by decide +kernel
theorem dL_law_541 : decode cL_law 541 = .ok (.iconst 1, 1) := by decide +kernel
theorem dL_law_542 : decode cL_law 542 = .ok (.iadd, 1) := by decide +kernel
theorem dL_law_543 : decode cL_law 543 = .ok (.iaload, 1) := by decide +kernel
theorem dL_law_544 : decode cL_law 544 = .ok (.invokevirtual 63, 3) := by decide +kernel
theorem dL_law_547 : decode cL_law 547 = .ok (.if_icmp .eq 983, 3) := by decide +kernel
theorem dL_law_550 : decode cL_law 550 = .ok (.iconst 0, 1) := by decide +kernel
theorem dL_law_551 : decode cL_law 551 = .ok (.ireturn, 1) := by decide +kernel
theorem dL_law_552 : decode cL_law 552 = .ok (.aload_n 1, 1) := by decide +kernel
theorem dL_law_553 : decode cL_law 553 = .ok (.aload_n 0, 1) := by decide +kernel
theorem dL_law_554 : decode cL_law 554 = .ok (.iload 4, 2) := by decide +kernel
theorem dL_law_556 : decode cL_law 556 = .ok (.iconst 1, 1) := by decide +kernel
theorem dL_law_557 : decode cL_law 557 = .ok (.iadd, 1) := by decide +kernel
theorem dL_law_558 : decode cL_law 558 = .ok (.iaload, 1) := by decide +kernel
theorem dL_law_559 : decode cL_law 559 = .ok (.aload_n 0, 1) := by decide +kernel
theorem dL_law_560 : decode cL_law 560 = .ok (.iload 4, 2) := by decide +kernel
theorem dL_law_562 : decode cL_law 562 = .ok (.iconst 2, 1) := by decide +kernel
theorem dL_law_563 : decode cL_law 563 = .ok (.iadd, 1) := by decide +kernel
theorem dL_law_564 : decode cL_law 564 = .ok (.iaload, 1) := by decide +kernel
theorem dL_law_565 : decode cL_law 565 = .ok (.invokevirtual 64, 3) := by decide +kernel
theorem dL_law_568 : decode cL_law 568 = .ok (.aload_n 2, 1) := by decide +kernel
theorem dL_law_569 : decode cL_law 569 = .ok (.aload_n 0, 1) := by decide +kernel
theorem dL_law_570 : decode cL_law 570 = .ok (.iload 4, 2) := by decide +kernel
theorem dL_law_572 : decode cL_law 572 = .ok (.iconst 1, 1) := by decide +kernel
theorem dL_law_573 : decode cL_law 573 = .ok (.iadd, 1) := by decide +kernel
theorem dL_law_574 : decode cL_law 574 = .ok (.iaload, 1) := by decide +kernel
theorem dL_law_575 : decode cL_law 575 = .ok (.aload_n 0, 1) := by decide +kernel
theorem dL_law_576 : decode cL_law 576 = .ok (.iload 4, 2) := by decide +kernel
theorem dL_law_578 : decode cL_law 578 = .ok (.iconst 2, 1) := by decide +kernel
theorem dL_law_579 : decode cL_law 579 = .ok (.iadd, 1) := by decide +kernel
theorem dL_law_580 : decode cL_law 580 = .ok (.iaload, 1) := by decide +kernel
theorem dL_law_581 : decode cL_law 581 = .ok (.invokevirtual 67, 3) := by decide +kernel
theorem dL_law_584 : decode cL_law 584 = .ok (.if_icmp .eq 946, 3) := by decide +kernel
theorem dL_law_587 : decode cL_law 587 = .ok (.iconst 0, 1) := by decide +kernel
theorem dL_law_588 : decode cL_law 588 = .ok (.ireturn, 1) := by decide +kernel
theorem dL_law_589 : decode cL_law 589 = .ok (.aload_n 1, 1) := by decide +kernel
theorem dL_law_590 : decode cL_law 590 = .ok (.aload_n 0, 1) := by decide +kernel
theorem dL_law_591 : decode cL_law 591 = .ok (.iload 4, 2) := by decide +kernel
theorem dL_law_593 : decode cL_law 593 = .ok (.iconst 1, 1) := by decide +kernel
theorem dL_law_594 : decode cL_law 594 = .ok (.iadd, 1) := by decide +kernel
theorem dL_law_595 : decode cL_law 595 = .ok (.iaload, 1) := by decide +kernel
theorem dL_law_596 : decode cL_law 596 = .ok (.invokevirtual 68, 3) := by decide +kernel
theorem dL_law_599 : decode cL_law 599 = .ok (.aload_n 2, 1) := by decide +kernel
theorem dL_law_600 : decode cL_law 600 = .ok (.aload_n 0, 1) := by decide +kernel
theorem dL_law_601 : decode cL_law 601 = .ok (.iload 4, 2) := by decide +kernel
theorem dL_law_603 : decode cL_law 603 = .ok (.iconst 1, 1) := by decide +kernel
theorem dL_law_604 : decode cL_law 604 = .ok (.iadd, 1) := by decide +kernel
theorem dL_law_605 : decode cL_law 605 = .ok (.iaload, 1) := by decide +kernel
theorem dL_law_606 : decode cL_law 606 = .ok (.invokevirtual 71, 3) := by decide +kernel
theorem dL_law_609 : decode cL_law 609 = .ok (.if_icmp .eq 921, 3) := by decide +kernel
theorem dL_law_612 : decode cL_law 612 = .ok (.iconst 0, 1) := by decide +kernel
theorem dL_law_613 : decode cL_law 613 = .ok (.ireturn, 1) := by decide +kernel
theorem dL_law_614 : decode cL_law 614 = .ok (.aload_n 1, 1) := by decide +kernel
theorem dL_law_615 : decode cL_law 615 = .ok (.aload_n 0, 1) := by decide +kernel
theorem dL_law_616 : decode cL_law 616 = .ok (.iload 4, 2) := by decide +kernel
theorem dL_law_618 : decode cL_law 618 = .ok (.iconst 1, 1) := by decide +kernel
theorem dL_law_619 : decode cL_law 619 = .ok (.iadd, 1) := by decide +kernel
theorem dL_law_620 : decode cL_law 620 = .ok (.iaload, 1) := by decide +kernel
theorem dL_law_621 : decode cL_law 621 = .ok (.aload_n 0, 1) := by decide +kernel
theorem dL_law_622 : decode cL_law 622 = .ok (.iload 4, 2) := by decide +kernel
theorem dL_law_624 : decode cL_law 624 = .ok (.iconst 2, 1) := by decide +kernel
theorem dL_law_625 : decode cL_law 625 = .ok (.iadd, 1) := by decide +kernel
theorem dL_law_626 : decode cL_law 626 = .ok (.iaload, 1) := by decide +kernel
theorem dL_law_627 : decode cL_law 627 = .ok (.invokevirtual 72, 3) := by decide +kernel
theorem dL_law_630 : decode cL_law 630 = .ok (.aload_n 2, 1) := by decide +kernel
theorem dL_law_631 : decode cL_law 631 = .ok (.aload_n 0, 1) := by decide +kernel
theorem dL_law_632 : decode cL_law 632 = .ok (.iload 4, 2) := by decide +kernel
theorem dL_law_634 : decode cL_law 634 = .ok (.iconst 1, 1) := by decide +kernel
theorem dL_law_635 : decode cL_law 635 = .ok (.iadd, 1) := by decide +kernel
theorem dL_law_636 : decode cL_law 636 = .ok (.iaload, 1) := by decide +kernel
theorem dL_law_637 : decode cL_law 637 = .ok (.aload_n 0, 1) := by decide +kernel
theorem dL_law_638 : decode cL_law 638 = .ok (.iload 4, 2) := by decide +kernel
theorem dL_law_640 : decode cL_law 640 = .ok (.iconst 2, 1) := by decide +kernel
theorem dL_law_641 : decode cL_law 641 = .ok (.iadd, 1) := by decide +kernel
theorem dL_law_642 : decode cL_law 642 = .ok (.iaload, 1) := by decide +kernel
theorem dL_law_643 : decode cL_law 643 = .ok (.invokevirtual 75, 3) := by decide +kernel
theorem dL_law_646 : decode cL_law 646 = .ok (.if_icmp .eq 884, 3) := by decide +kernel
theorem dL_law_649 : decode cL_law 649 = .ok (.iconst 0, 1) := by decide +kernel
theorem dL_law_650 : decode cL_law 650 = .ok (.ireturn, 1) := by decide +kernel
theorem dL_law_651 : decode cL_law 651 = .ok (.aload_n 1, 1) := by decide +kernel
theorem dL_law_652 : decode cL_law 652 = .ok (.invokevirtual 76, 3) := by decide +kernel
theorem dL_law_655 : decode cL_law 655 = .ok (.aload_n 2, 1) := by decide +kernel
theorem dL_law_656 : decode cL_law 656 = .ok (.invokevirtual 79, 3) := by decide +kernel
theorem dL_law_659 : decode cL_law 659 = .ok (.if_icmp .eq 871, 3) := by decide +kernel
theorem dL_law_662 : decode cL_law 662 = .ok (.iconst 0, 1) := by decide +kernel
theorem dL_law_663 : decode cL_law 663 = .ok (.ireturn, 1) := by decide +kernel
theorem dL_law_664 : decode cL_law 664 = .ok (.aload_n 1, 1) := by decide +kernel
theorem dL_law_665 : decode cL_law 665 = .ok (.aload_n 0, 1) := by decide +kernel
theorem dL_law_666 : decode cL_law 666 = .ok (.iload 4, 2) := by decide +kernel
theorem dL_law_668 : decode cL_law 668 = .ok (.iconst 1, 1) := by decide +kernel
theorem dL_law_669 : decode cL_law 669 = .ok (.iadd, 1) := by decide +kernel
theorem dL_law_670 : decode cL_law 670 = .ok (.iaload, 1) := by decide +kernel
theorem dL_law_671 : decode cL_law 671 = .ok (.invokevirtual 80, 3) := by decide +kernel
theorem dL_law_674 : decode cL_law 674 = .ok (.aload_n 2, 1) := by decide +kernel
theorem dL_law_675 : decode cL_law 675 = .ok (.aload_n 0, 1) := by decide +kernel
theorem dL_law_676 : decode cL_law 676 = .ok (.iload 4, 2) := by decide +kernel
theorem dL_law_678 : decode cL_law 678 = .ok (.iconst 1, 1) := by decide +kernel
theorem dL_law_679 : decode cL_law 679 = .ok (.iadd, 1) := by decide +kernel
theorem dL_law_680 : decode cL_law 680 = .ok (.iaload, 1) := by decide +kernel
theorem dL_law_681 : decode cL_law 681 = .ok (.invokevirtual 83, 3) := by decide +kernel
theorem dL_law_684 : decode cL_law 684 = .ok (.if_icmp .eq 846, 3) := by decide +kernel
theorem dL_law_687 : decode cL_law 687 = .ok (.iconst 0, 1) := by decide +kernel
theorem dL_law_688 : decode cL_law 688 = .ok (.ireturn, 1) := by decide +kernel
theorem dL_law_689 : decode cL_law 689 = .ok (.aload_n 1, 1) := by decide +kernel
theorem dL_law_690 : decode cL_law 690 = .ok (.aload_n 0, 1) := by decide +kernel
theorem dL_law_691 : decode cL_law 691 = .ok (.iload 4, 2) := by decide +kernel
theorem dL_law_693 : decode cL_law 693 = .ok (.iconst 1, 1) := by decide +kernel
theorem dL_law_694 : decode cL_law 694 = .ok (.iadd, 1) := by decide +kernel
theorem dL_law_695 : decode cL_law 695 = .ok (.iaload, 1) := by decide +kernel
theorem dL_law_696 : decode cL_law 696 = .ok (.invokevirtual 84, 3) := by decide +kernel
theorem dL_law_699 : decode cL_law 699 = .ok (.aload_n 2, 1) := by decide +kernel
theorem dL_law_700 : decode cL_law 700 = .ok (.aload_n 0, 1) := by decide +kernel
theorem dL_law_701 : decode cL_law 701 = .ok (.iload 4, 2) := by decide +kernel
theorem dL_law_703 : decode cL_law 703 = .ok (.iconst 1, 1) := by decide +kernel
theorem dL_law_704 : decode cL_law 704 = .ok (.iadd, 1) := by decide +kernel
theorem dL_law_705 : decode cL_law 705 = .ok (.iaload, 1) := by decide +kernel
theorem dL_law_706 : decode cL_law 706 = .ok (.invokevirtual 87, 3) := by decide +kernel
theorem dL_law_709 : decode cL_law 709 = .ok (.if_icmp .eq 821, 3) := by decide +kernel
theorem dL_law_712 : decode cL_law 712 = .ok (.iconst 0, 1) := by decide +kernel
theorem dL_law_713 : decode cL_law 713 = .ok (.ireturn, 1) := by decide +kernel
theorem dL_law_714 : decode cL_law 714 = .ok (.aload_n 1, 1) := by decide +kernel
theorem dL_law_715 : decode cL_law 715 = .ok (.aload_n 0, 1) := by decide +kernel
theorem dL_law_716 : decode cL_law 716 = .ok (.iload 4, 2) := by decide +kernel
theorem dL_law_718 : decode cL_law 718 = .ok (.iconst 1, 1) := by decide +kernel
theorem dL_law_719 : decode cL_law 719 = .ok (.iadd, 1) := by decide +kernel
theorem dL_law_720 : decode cL_law 720 = .ok (.iaload, 1) := by decide +kernel
theorem dL_law_721 : decode cL_law 721 = .ok (.invokevirtual 88, 3) := by decide +kernel
theorem dL_law_724 : decode cL_law 724 = .ok (.aload_n 2, 1) := by decide +kernel
theorem dL_law_725 : decode cL_law 725 = .ok (.aload_n 0, 1) := by decide +kernel
theorem dL_law_726 : decode cL_law 726 = .ok (.iload 4, 2) := by decide +kernel
theorem dL_law_728 : decode cL_law 728 = .ok (.iconst 1, 1) := by decide +kernel
theorem dL_law_729 : decode cL_law 729 = .ok (.iadd, 1) := by decide +kernel
theorem dL_law_730 : decode cL_law 730 = .ok (.iaload, 1) := by decide +kernel
theorem dL_law_731 : decode cL_law 731 = .ok (.invokevirtual 91, 3) := by decide +kernel
theorem dL_law_734 : decode cL_law 734 = .ok (.if_icmp .eq 796, 3) := by decide +kernel
theorem dL_law_737 : decode cL_law 737 = .ok (.iconst 0, 1) := by decide +kernel
theorem dL_law_738 : decode cL_law 738 = .ok (.ireturn, 1) := by decide +kernel
theorem dL_law_739 : decode cL_law 739 = .ok (.aload_n 1, 1) := by decide +kernel
theorem dL_law_740 : decode cL_law 740 = .ok (.aload_n 0, 1) := by decide +kernel
theorem dL_law_741 : decode cL_law 741 = .ok (.iload 4, 2) := by decide +kernel
theorem dL_law_743 : decode cL_law 743 = .ok (.iconst 1, 1) := by decide +kernel
theorem dL_law_744 : decode cL_law 744 = .ok (.iadd, 1) := by decide +kernel
theorem dL_law_745 : decode cL_law 745 = .ok (.iaload, 1) := by decide +kernel
theorem dL_law_746 : decode cL_law 746 = .ok (.invokevirtual 92, 3) := by decide +kernel
theorem dL_law_749 : decode cL_law 749 = .ok (.aload_n 2, 1) := by decide +kernel
theorem dL_law_750 : decode cL_law 750 = .ok (.aload_n 0, 1) := by decide +kernel
theorem dL_law_751 : decode cL_law 751 = .ok (.iload 4, 2) := by decide +kernel
theorem dL_law_753 : decode cL_law 753 = .ok (.iconst 1, 1) := by decide +kernel
theorem dL_law_754 : decode cL_law 754 = .ok (.iadd, 1) := by decide +kernel
theorem dL_law_755 : decode cL_law 755 = .ok (.iaload, 1) := by decide +kernel
theorem dL_law_756 : decode cL_law 756 = .ok (.invokevirtual 95, 3) := by decide +kernel
theorem dL_law_759 : decode cL_law 759 = .ok (.if_icmp .eq 771, 3) := by decide +kernel
theorem dL_law_762 : decode cL_law 762 = .ok (.iconst 0, 1) := by decide +kernel
theorem dL_law_763 : decode cL_law 763 = .ok (.ireturn, 1) := by decide +kernel
theorem dL_law_764 : decode cL_law 764 = .ok (.aload_n 1, 1) := by decide +kernel
theorem dL_law_765 : decode cL_law 765 = .ok (.aload_n 0, 1) := by decide +kernel
theorem dL_law_766 : decode cL_law 766 = .ok (.iload 4, 2) := by decide +kernel
theorem dL_law_768 : decode cL_law 768 = .ok (.iconst 1, 1) := by decide +kernel
theorem dL_law_769 : decode cL_law 769 = .ok (.iadd, 1) := by decide +kernel
theorem dL_law_770 : decode cL_law 770 = .ok (.iaload, 1) := by decide +kernel
theorem dL_law_771 : decode cL_law 771 = .ok (.aload_n 0, 1) := by decide +kernel
theorem dL_law_772 : decode cL_law 772 = .ok (.iload 4, 2) := by decide +kernel
theorem dL_law_774 : decode cL_law 774 = .ok (.iconst 2, 1) := by decide +kernel
theorem dL_law_775 : decode cL_law 775 = .ok (.iadd, 1) := by decide +kernel
theorem dL_law_776 : decode cL_law 776 = .ok (.iaload, 1) := by decide +kernel
theorem dL_law_777 : decode cL_law 777 = .ok (.i2l, 1) := by decide +kernel
theorem dL_law_778 : decode cL_law 778 = .ok (.bipush 32, 2) := by decide +kernel
theorem dL_law_780 : decode cL_law 780 = .ok (.lshl, 1) := by decide +kernel
theorem dL_law_781 : decode cL_law 781 = .ok (.aload_n 0, 1) := by decide +kernel
theorem dL_law_782 : decode cL_law 782 = .ok (.iload 4, 2) := by decide +kernel
theorem dL_law_784 : decode cL_law 784 = .ok (.iconst 3, 1) := by decide +kernel
theorem dL_law_785 : decode cL_law 785 = .ok (.iadd, 1) := by decide +kernel
theorem dL_law_786 : decode cL_law 786 = .ok (.iaload, 1) := by decide +kernel
theorem dL_law_787 : decode cL_law 787 = .ok (.i2l, 1) := by decide +kernel
theorem dL_law_788 : decode cL_law 788 = .ok (.ldc2_w 96, 3) := by decide +kernel
theorem dL_law_791 : decode cL_law 791 = .ok (.land, 1) := by decide +kernel
theorem dL_law_792 : decode cL_law 792 = .ok (.lor, 1) := by decide +kernel
theorem dL_law_793 : decode cL_law 793 = .ok (.invokevirtual 98, 3) := by decide +kernel
theorem dL_law_796 : decode cL_law 796 = .ok (.aload_n 2, 1) := by decide +kernel
theorem dL_law_797 : decode cL_law 797 = .ok (.aload_n 0, 1) := by decide +kernel
theorem dL_law_798 : decode cL_law 798 = .ok (.iload 4, 2) := by decide +kernel
theorem dL_law_800 : decode cL_law 800 = .ok (.iconst 1, 1) := by decide +kernel
theorem dL_law_801 : decode cL_law 801 = .ok (.iadd, 1) := by decide +kernel
theorem dL_law_802 : decode cL_law 802 = .ok (.iaload, 1) := by decide +kernel
theorem dL_law_803 : decode cL_law 803 = .ok (.aload_n 0, 1) := by decide +kernel
theorem dL_law_804 : decode cL_law 804 = .ok (.iload 4, 2) := by decide +kernel
theorem dL_law_806 : decode cL_law 806 = .ok (.iconst 2, 1) := by decide +kernel
theorem dL_law_807 : decode cL_law 807 = .ok (.iadd, 1) := by decide +kernel
theorem dL_law_808 : decode cL_law 808 = .ok (.iaload, 1) := by decide +kernel
theorem dL_law_809 : decode cL_law 809 = .ok (.i2l, 1) := by decide +kernel
theorem dL_law_810 : decode cL_law 810 = .ok (.bipush 32, 2) := by decide +kernel
theorem dL_law_812 : decode cL_law 812 = .ok (.lshl, 1) := by decide +kernel
theorem dL_law_813 : decode cL_law 813 = .ok (.aload_n 0, 1) := by decide +kernel
theorem dL_law_814 : decode cL_law 814 = .ok (.iload 4, 2) := by decide +kernel
theorem dL_law_816 : decode cL_law 816 = .ok (.iconst 3, 1) := by decide +kernel
theorem dL_law_817 : decode cL_law 817 = .ok (.iadd, 1) := by decide +kernel
theorem dL_law_818 : decode cL_law 818 = .ok (.iaload, 1) := by decide +kernel
theorem dL_law_819 : decode cL_law 819 = .ok (.i2l, 1) := by decide +kernel
theorem dL_law_820 : decode cL_law 820 = .ok (.ldc2_w 96, 3) := by decide +kernel
theorem dL_law_823 : decode cL_law 823 = .ok (.land, 1) := by decide +kernel
theorem dL_law_824 : decode cL_law 824 = .ok (.lor, 1) := by decide +kernel
theorem dL_law_825 : decode cL_law 825 = .ok (.invokevirtual 102, 3) := by decide +kernel
theorem dL_law_828 : decode cL_law 828 = .ok (.if_icmp .eq 702, 3) := by decide +kernel
theorem dL_law_831 : decode cL_law 831 = .ok (.iconst 0, 1) := by decide +kernel
theorem dL_law_832 : decode cL_law 832 = .ok (.ireturn, 1) := by decide +kernel
theorem dL_law_833 : decode cL_law 833 = .ok (.aload_n 1, 1) := by decide +kernel
theorem dL_law_834 : decode cL_law 834 = .ok (.aload_n 0, 1) := by decide +kernel
theorem dL_law_835 : decode cL_law 835 = .ok (.iload 4, 2) := by decide +kernel
theorem dL_law_837 : decode cL_law 837 = .ok (.iconst 1, 1) := by decide +kernel
theorem dL_law_838 : decode cL_law 838 = .ok (.iadd, 1) := by decide +kernel
theorem dL_law_839 : decode cL_law 839 = .ok (.iaload, 1) := by decide +kernel
theorem dL_law_840 : decode cL_law 840 = .ok (.invokevirtual 103, 3) := by decide +kernel
theorem dL_law_843 : decode cL_law 843 = .ok (.aload_n 2, 1) := by decide +kernel
theorem dL_law_844 : decode cL_law 844 = .ok (.aload_n 0, 1) := by decide +kernel
theorem dL_law_845 : decode cL_law 845 = .ok (.iload 4, 2) := by decide +kernel
theorem dL_law_847 : decode cL_law 847 = .ok (.iconst 1, 1) := by decide +kernel
theorem dL_law_848 : decode cL_law 848 = .ok (.iadd, 1) := by decide +kernel
theorem dL_law_849 : decode cL_law 849 = .ok (.iaload, 1) := by decide +kernel
theorem dL_law_850 : decode cL_law 850 = .ok (.invokevirtual 106, 3) := by decide +kernel
theorem dL_law_853 : decode cL_law 853 = .ok (.if_icmp .eq 677, 3) := by decide +kernel
theorem dL_law_856 : decode cL_law 856 = .ok (.iconst 0, 1) := by decide +kernel
theorem dL_law_857 : decode cL_law 857 = .ok (.ireturn, 1) := by decide +kernel
theorem dL_law_858 : decode cL_law 858 = .ok (.aload_n 1, 1) := by decide +kernel
theorem dL_law_859 : decode cL_law 859 = .ok (.invokevirtual 107, 3) := by decide +kernel
theorem dL_law_862 : decode cL_law 862 = .ok (.aload_n 2, 1) := by decide +kernel
theorem dL_law_863 : decode cL_law 863 = .ok (.invokevirtual 110, 3) := by decide +kernel
theorem dL_law_866 : decode cL_law 866 = .ok (.if_icmp .eq 664, 3) := by decide +kernel
theorem dL_law_869 : decode cL_law 869 = .ok (.iconst 0, 1) := by decide +kernel
theorem dL_law_870 : decode cL_law 870 = .ok (.ireturn, 1) := by decide +kernel
theorem dL_law_871 : decode cL_law 871 = .ok (.aload_n 1, 1) := by decide +kernel
theorem dL_law_872 : decode cL_law 872 = .ok (.aload_n 0, 1) := by decide +kernel
theorem dL_law_873 : decode cL_law 873 = .ok (.iload 4, 2) := by decide +kernel
theorem dL_law_875 : decode cL_law 875 = .ok (.iconst 1, 1) := by decide +kernel
theorem dL_law_876 : decode cL_law 876 = .ok (.iadd, 1) := by decide +kernel
theorem dL_law_877 : decode cL_law 877 = .ok (.iaload, 1) := by decide +kernel
theorem dL_law_878 : decode cL_law 878 = .ok (.aload_n 0, 1) := by decide +kernel
theorem dL_law_879 : decode cL_law 879 = .ok (.iload 4, 2) := by decide +kernel
theorem dL_law_881 : decode cL_law 881 = .ok (.iconst 2, 1) := by decide +kernel
theorem dL_law_882 : decode cL_law 882 = .ok (.iadd, 1) := by decide +kernel
theorem dL_law_883 : decode cL_law 883 = .ok (.iaload, 1) := by decide +kernel
theorem dL_law_884 : decode cL_law 884 = .ok (.invokevirtual 111, 3) := by decide +kernel
theorem dL_law_887 : decode cL_law 887 = .ok (.aload_n 2, 1) := by decide +kernel
theorem dL_law_888 : decode cL_law 888 = .ok (.aload_n 0, 1) := by decide +kernel
theorem dL_law_889 : decode cL_law 889 = .ok (.iload 4, 2) := by decide +kernel
theorem dL_law_891 : decode cL_law 891 = .ok (.iconst 1, 1) := by decide +kernel
theorem dL_law_892 : decode cL_law 892 = .ok (.iadd, 1) := by decide +kernel
theorem dL_law_893 : decode cL_law 893 = .ok (.iaload, 1) := by decide +kernel
theorem dL_law_894 : decode cL_law 894 = .ok (.aload_n 0, 1) := by decide +kernel
theorem dL_law_895 : decode cL_law 895 = .ok (.iload 4, 2) := by decide +kernel
theorem dL_law_897 : decode cL_law 897 = .ok (.iconst 2, 1) := by decide +kernel
theorem dL_law_898 : decode cL_law 898 = .ok (.iadd, 1) := by decide +kernel
theorem dL_law_899 : decode cL_law 899 = .ok (.iaload, 1) := by decide +kernel
theorem dL_law_900 : decode cL_law 900 = .ok (.invokevirtual 114, 3) := by decide +kernel
theorem dL_law_903 : decode cL_law 903 = .ok (.if_icmp .eq 627, 3) := by decide +kernel
theorem dL_law_906 : decode cL_law 906 = .ok (.iconst 0, 1) := by decide +kernel
theorem dL_law_907 : decode cL_law 907 = .ok (.ireturn, 1) := by decide +kernel
theorem dL_law_908 : decode cL_law 908 = .ok (.aload_n 1, 1) := by decide +kernel
theorem dL_law_909 : decode cL_law 909 = .ok (.aload_n 0, 1) := by decide +kernel
theorem dL_law_910 : decode cL_law 910 = .ok (.iload 4, 2) := by decide +kernel
theorem dL_law_912 : decode cL_law 912 = .ok (.iconst 1, 1) := by decide +kernel
theorem dL_law_913 : decode cL_law 913 = .ok (.iadd, 1) := by decide +kernel
theorem dL_law_914 : decode cL_law 914 = .ok (.iaload, 1) := by decide +kernel
theorem dL_law_915 : decode cL_law 915 = .ok (.aload_n 0, 1) := by decide +kernel
theorem dL_law_916 : decode cL_law 916 = .ok (.iload 4, 2) := by decide +kernel
theorem dL_law_918 : decode cL_law 918 = .ok (.iconst 2, 1) := by decide +kernel
theorem dL_law_919 : decode cL_law 919 = .ok (.iadd, 1) := by decide +kernel
theorem dL_law_920 : decode cL_law 920 = .ok (.iaload, 1) := by decide +kernel
theorem dL_law_921 : decode cL_law 921 = .ok (.invokevirtual 115, 3) := by decide +kernel
theorem dL_law_924 : decode cL_law 924 = .ok (.aload_n 2, 1) := by decide +kernel
theorem dL_law_925 : decode cL_law 925 = .ok (.aload_n 0, 1) := by decide +kernel
theorem dL_law_926 : decode cL_law 926 = .ok (.iload 4, 2) := by decide +kernel
theorem dL_law_928 : decode cL_law 928 = .ok (.iconst 1, 1) := by decide +kernel
theorem dL_law_929 : decode cL_law 929 = .ok (.iadd, 1) := by decide +kernel
theorem dL_law_930 : decode cL_law 930 = .ok (.iaload, 1) := by decide +kernel
theorem dL_law_931 : decode cL_law 931 = .ok (.aload_n 0, 1) := by decide +kernel
theorem dL_law_932 : decode cL_law 932 = .ok (.iload 4, 2) := by decide +kernel
theorem dL_law_934 : decode cL_law 934 = .ok (.iconst 2, 1) := by decide +kernel
theorem dL_law_935 : decode cL_law 935 = .ok (.iadd, 1) := by decide +kernel
theorem dL_law_936 : decode cL_law 936 = .ok (.iaload, 1) := by decide +kernel
theorem dL_law_937 : decode cL_law 937 = .ok (.invokevirtual 118, 3) := by decide +kernel
theorem dL_law_940 : decode cL_law 940 = .ok (.if_icmp .eq 590, 3) := by decide +kernel
theorem dL_law_943 : decode cL_law 943 = .ok (.iconst 0, 1) := by decide +kernel
theorem dL_law_944 : decode cL_law 944 = .ok (.ireturn, 1) := by decide +kernel
theorem dL_law_945 : decode cL_law 945 = .ok (.aload_n 1, 1) := by decide +kernel
theorem dL_law_946 : decode cL_law 946 = .ok (.aload_n 0, 1) := by decide +kernel
theorem dL_law_947 : decode cL_law 947 = .ok (.iload 4, 2) := by decide +kernel
theorem dL_law_949 : decode cL_law 949 = .ok (.iconst 1, 1) := by decide +kernel
theorem dL_law_950 : decode cL_law 950 = .ok (.iadd, 1) := by decide +kernel
theorem dL_law_951 : decode cL_law 951 = .ok (.iaload, 1) := by decide +kernel
theorem dL_law_952 : decode cL_law 952 = .ok (.aload_n 0, 1) := by decide +kernel
theorem dL_law_953 : decode cL_law 953 = .ok (.iload 4, 2) := by decide +kernel
theorem dL_law_955 : decode cL_law 955 = .ok (.iconst 2, 1) := by decide +kernel
theorem dL_law_956 : decode cL_law 956 = .ok (.iadd, 1) := by decide +kernel
theorem dL_law_957 : decode cL_law 957 = .ok (.iaload, 1) := by decide +kernel
theorem dL_law_958 : decode cL_law 958 = .ok (.aload_n 0, 1) := by decide +kernel
theorem dL_law_959 : decode cL_law 959 = .ok (.iload 4, 2) := by decide +kernel
theorem dL_law_961 : decode cL_law 961 = .ok (.iconst 3, 1) := by decide +kernel
theorem dL_law_962 : decode cL_law 962 = .ok (.iadd, 1) := by decide +kernel
theorem dL_law_963 : decode cL_law 963 = .ok (.iaload, 1) := by decide +kernel
theorem dL_law_964 : decode cL_law 964 = .ok (.invokevirtual 119, 3) := by decide +kernel
theorem dL_law_967 : decode cL_law 967 = .ok (.aload_n 2, 1) := by decide +kernel
theorem dL_law_968 : decode cL_law 968 = .ok (.aload_n 0, 1) := by decide +kernel
theorem dL_law_969 : decode cL_law 969 = .ok (.iload 4, 2) := by decide +kernel
theorem dL_law_971 : decode cL_law 971 = .ok (.iconst 1, 1) := by decide +kernel
theorem dL_law_972 : decode cL_law 972 = .ok (.iadd, 1) := by decide +kernel
theorem dL_law_973 : decode cL_law 973 = .ok (.iaload, 1) := by decide +kernel
theorem dL_law_974 : decode cL_law 974 = .ok (.aload_n 0, 1) := by decide +kernel
theorem dL_law_975 : decode cL_law 975 = .ok (.iload 4, 2) := by decide +kernel
theorem dL_law_977 : decode cL_law 977 = .ok (.iconst 2, 1) := by decide +kernel
theorem dL_law_978 : decode cL_law 978 = .ok (.iadd, 1) := by decide +kernel
theorem dL_law_979 : decode cL_law 979 = .ok (.iaload, 1) := by decide +kernel
theorem dL_law_980 : decode cL_law 980 = .ok (.aload_n 0, 1) := by decide +kernel
theorem dL_law_981 : decode cL_law 981 = .ok (.iload 4, 2) := by decide +kernel
theorem dL_law_983 : decode cL_law 983 = .ok (.iconst 3, 1) := by decide +kernel
theorem dL_law_984 : decode cL_law 984 = .ok (.iadd, 1) := by decide +kernel
theorem dL_law_985 : decode cL_law 985 = .ok (.iaload, 1) := by decide +kernel
theorem dL_law_986 : decode cL_law 986 = .ok (.invokevirtual 123, 3) := by decide +kernel
theorem dL_law_989 : decode cL_law 989 = .ok (.if_icmp .eq 541, 3) := by decide +kernel
theorem dL_law_992 : decode cL_law 992 = .ok (.iconst 0, 1) := by decide +kernel
theorem dL_law_993 : decode cL_law 993 = .ok (.ireturn, 1) := by decide +kernel
theorem dL_law_994 : decode cL_law 994 = .ok (.aload_n 1, 1) := by decide +kernel
theorem dL_law_995 : decode cL_law 995 = .ok (.aload_n 0, 1) := by decide +kernel
theorem dL_law_996 : decode cL_law 996 = .ok (.iload 4, 2) := by decide +kernel
theorem dL_law_998 : decode cL_law 998 = .ok (.iconst 1, 1) := by decide +kernel
theorem dL_law_999 : decode cL_law 999 = .ok (.iadd, 1) := by decide +kernel
theorem dL_law_1000 : decode cL_law 1000 = .ok (.iaload, 1) := by decide +kernel
theorem dL_law_1001 : decode cL_law 1001 = .ok (.aload_n 0, 1) := by decide +kernel
theorem dL_law_1002 : decode cL_law 1002 = .ok (.iload 4, 2) := by decide +kernel
theorem dL_law_1004 : decode cL_law 1004 = .ok (.iconst 2, 1) := by decide +kernel
theorem dL_law_1005 : decode cL_law 1005 = .ok (.iadd, 1) := by decide +kernel
theorem dL_law_1006 : decode cL_law 1006 = .ok (.iaload, 1) := by decide +kernel
theorem dL_law_1007 : decode cL_law 1007 = .ok (.invokevirtual 124, 3) := by decide +kernel
theorem dL_law_1010 : decode cL_law 1010 = .ok (.aload_n 2, 1) := by decide +kernel
theorem dL_law_1011 : decode cL_law 1011 = .ok (.aload_n 0, 1) := by decide +kernel
theorem dL_law_1012 : decode cL_law 1012 = .ok (.iload 4, 2) := by decide +kernel
theorem dL_law_1014 : decode cL_law 1014 = .ok (.iconst 1, 1) := by decide +kernel
theorem dL_law_1015 : decode cL_law 1015 = .ok (.iadd, 1) := by decide +kernel
theorem dL_law_1016 : decode cL_law 1016 = .ok (.iaload, 1) := by decide +kernel
theorem dL_law_1017 : decode cL_law 1017 = .ok (.aload_n 0, 1) := by decide +kernel
theorem dL_law_1018 : decode cL_law 1018 = .ok (.iload 4, 2) := by decide +kernel
theorem dL_law_1020 : decode cL_law 1020 = .ok (.iconst 2, 1) := by decide +kernel
theorem dL_law_1021 : decode cL_law 1021 = .ok (.iadd, 1) := by decide +kernel
theorem dL_law_1022 : decode cL_law 1022 = .ok (.iaload, 1) := by decide +kernel
theorem dL_law_1023 : decode cL_law 1023 = .ok (.invokevirtual 127, 3) := by decide +kernel
theorem dL_law_1026 : decode cL_law 1026 = .ok (.if_icmp .eq 504, 3) := by decide +kernel
theorem dL_law_1029 : decode cL_law 1029 = .ok (.iconst 0, 1) := by decide +kernel
theorem dL_law_1030 : decode cL_law 1030 = .ok (.ireturn, 1) := by decide +kernel
theorem dL_law_1031 : decode cL_law 1031 = .ok (.aload_n 1, 1) := by decide +kernel
theorem dL_law_1032 : decode cL_law 1032 = .ok (.aload_n 0, 1) := by decide +kernel
theorem dL_law_1033 : decode cL_law 1033 = .ok (.iload 4, 2) := by decide +kernel
theorem dL_law_1035 : decode cL_law 1035 = .ok (.iconst 1, 1) := by decide +kernel
theorem dL_law_1036 : decode cL_law 1036 = .ok (.iadd, 1) := by decide +kernel
theorem dL_law_1037 : decode cL_law 1037 = .ok (.iaload, 1) := by decide +kernel
theorem dL_law_1038 : decode cL_law 1038 = .ok (.invokevirtual 128, 3) := by decide +kernel
theorem dL_law_1041 : decode cL_law 1041 = .ok (.aload_n 2, 1) := by decide +kernel
theorem dL_law_1042 : decode cL_law 1042 = .ok (.aload_n 0, 1) := by decide +kernel
theorem dL_law_1043 : decode cL_law 1043 = .ok (.iload 4, 2) := by decide +kernel
theorem dL_law_1045 : decode cL_law 1045 = .ok (.iconst 1, 1) := by decide +kernel
theorem dL_law_1046 : decode cL_law 1046 = .ok (.iadd, 1) := by decide +kernel
theorem dL_law_1047 : decode cL_law 1047 = .ok (.iaload, 1) := by decide +kernel
theorem dL_law_1048 : decode cL_law 1048 = .ok (.invokevirtual 131, 3) := by decide +kernel
theorem dL_law_1051 : decode cL_law 1051 = .ok (.if_icmp .eq 479, 3) := by decide +kernel
theorem dL_law_1054 : decode cL_law 1054 = .ok (.iconst 0, 1) := by decide +kernel
theorem dL_law_1055 : decode cL_law 1055 = .ok (.ireturn, 1) := by decide +kernel
theorem dL_law_1056 : decode cL_law 1056 = .ok (.aload_n 1, 1) := by decide +kernel
theorem dL_law_1057 : decode cL_law 1057 = .ok (.invokevirtual 132, 3) := by decide +kernel
theorem dL_law_1060 : decode cL_law 1060 = .ok (.aload_n 2, 1) := by decide +kernel
theorem dL_law_1061 : decode cL_law 1061 = .ok (.invokevirtual 135, 3) := by decide +kernel
theorem dL_law_1064 : decode cL_law 1064 = .ok (.if_icmp .eq 466, 3) := by decide +kernel
theorem dL_law_1067 : decode cL_law 1067 = .ok (.iconst 0, 1) := by decide +kernel
theorem dL_law_1068 : decode cL_law 1068 = .ok (.ireturn, 1) := by decide +kernel
theorem dL_law_1069 : decode cL_law 1069 = .ok (.aload_n 1, 1) := by decide +kernel
theorem dL_law_1070 : decode cL_law 1070 = .ok (.aload_n 0, 1) := by decide +kernel
theorem dL_law_1071 : decode cL_law 1071 = .ok (.iload 4, 2) := by decide +kernel
theorem dL_law_1073 : decode cL_law 1073 = .ok (.iconst 1, 1) := by decide +kernel
theorem dL_law_1074 : decode cL_law 1074 = .ok (.iadd, 1) := by decide +kernel
theorem dL_law_1075 : decode cL_law 1075 = .ok (.iaload, 1) := by decide +kernel
theorem dL_law_1076 : decode cL_law 1076 = .ok (.aload_n 0, 1) := by decide +kernel
theorem dL_law_1077 : decode cL_law 1077 = .ok (.iload 4, 2) := by decide +kernel
theorem dL_law_1079 : decode cL_law 1079 = .ok (.iconst 2, 1) := by decide +kernel
theorem dL_law_1080 : decode cL_law 1080 = .ok (.iadd, 1) := by decide +kernel
theorem dL_law_1081 : decode cL_law 1081 = .ok (.iaload, 1) := by decide +kernel
theorem dL_law_1082 : decode cL_law 1082 = .ok (.aload_n 0, 1) := by decide +kernel
theorem dL_law_1083 : decode cL_law 1083 = .ok (.iload 4, 2) := by decide +kernel
theorem dL_law_1085 : decode cL_law 1085 = .ok (.iconst 3, 1) := by decide +kernel
theorem dL_law_1086 : decode cL_law 1086 = .ok (.iadd, 1) := by decide +kernel
theorem dL_law_1087 : decode cL_law 1087 = .ok (.iaload, 1) := by decide +kernel
theorem dL_law_1088 : decode cL_law 1088 = .ok (.aload_n 0, 1) := by decide +kernel
theorem dL_law_1089 : decode cL_law 1089 = .ok (.iload 4, 2) := by decide +kernel
theorem dL_law_1091 : decode cL_law 1091 = .ok (.iconst 4, 1) := by decide +kernel
theorem dL_law_1092 : decode cL_law 1092 = .ok (.iadd, 1) := by decide +kernel
theorem dL_law_1093 : decode cL_law 1093 = .ok (.iaload, 1) := by decide +kernel
theorem dL_law_1094 : decode cL_law 1094 = .ok (.ifCond .eq 7, 3) := by decide +kernel
theorem dL_law_1097 : decode cL_law 1097 = .ok (.iconst 1, 1) := by decide +kernel
theorem dL_law_1098 : decode cL_law 1098 = .ok (.goto 4, 3) := by decide +kernel
theorem dL_law_1101 : decode cL_law 1101 = .ok (.iconst 0, 1) := by decide +kernel
theorem dL_law_1102 : decode cL_law 1102 = .ok (.invokevirtual 136, 3) := by decide +kernel
theorem dL_law_1105 : decode cL_law 1105 = .ok (.aload_n 2, 1) := by decide +kernel
theorem dL_law_1106 : decode cL_law 1106 = .ok (.aload_n 0, 1) := by decide +kernel
theorem dL_law_1107 : decode cL_law 1107 = .ok (.iload 4, 2) := by decide +kernel
theorem dL_law_1109 : decode cL_law 1109 = .ok (.iconst 1, 1) := by decide +kernel
theorem dL_law_1110 : decode cL_law 1110 = .ok (.iadd, 1) := by decide +kernel
theorem dL_law_1111 : decode cL_law 1111 = .ok (.iaload, 1) := by decide +kernel
theorem dL_law_1112 : decode cL_law 1112 = .ok (.aload_n 0, 1) := by decide +kernel
theorem dL_law_1113 : decode cL_law 1113 = .ok (.iload 4, 2) := by decide +kernel
theorem dL_law_1115 : decode cL_law 1115 = .ok (.iconst 2, 1) := by decide +kernel
theorem dL_law_1116 : decode cL_law 1116 = .ok (.iadd, 1) := by decide +kernel
theorem dL_law_1117 : decode cL_law 1117 = .ok (.iaload, 1) := by decide +kernel
theorem dL_law_1118 : decode cL_law 1118 = .ok (.aload_n 0, 1) := by decide +kernel
theorem dL_law_1119 : decode cL_law 1119 = .ok (.iload 4, 2) := by decide +kernel
theorem dL_law_1121 : decode cL_law 1121 = .ok (.iconst 3, 1) := by decide +kernel
theorem dL_law_1122 : decode cL_law 1122 = .ok (.iadd, 1) := by decide +kernel
theorem dL_law_1123 : decode cL_law 1123 = .ok (.iaload, 1) := by decide +kernel
theorem dL_law_1124 : decode cL_law 1124 = .ok (.aload_n 0, 1) := by decide +kernel
theorem dL_law_1125 : decode cL_law 1125 = .ok (.iload 4, 2) := by decide +kernel
theorem dL_law_1127 : decode cL_law 1127 = .ok (.iconst 4, 1) := by decide +kernel
theorem dL_law_1128 : decode cL_law 1128 = .ok (.iadd, 1) := by decide +kernel
theorem dL_law_1129 : decode cL_law 1129 = .ok (.iaload, 1) := by decide +kernel
theorem dL_law_1130 : decode cL_law 1130 = .ok (.ifCond .eq 7, 3) := by decide +kernel
theorem dL_law_1133 : decode cL_law 1133 = .ok (.iconst 1, 1) := by decide +kernel
theorem dL_law_1134 : decode cL_law 1134 = .ok (.goto 4, 3) := by decide +kernel
theorem dL_law_1137 : decode cL_law 1137 = .ok (.iconst 0, 1) := by decide +kernel
theorem dL_law_1138 : decode cL_law 1138 = .ok (.invokevirtual 140, 3) := by decide +kernel
theorem dL_law_1141 : decode cL_law 1141 = .ok (.if_icmp .eq 389, 3) := by decide +kernel
theorem dL_law_1144 : decode cL_law 1144 = .ok (.iconst 0, 1) := by decide +kernel
theorem dL_law_1145 : decode cL_law 1145 = .ok (.ireturn, 1) := by decide +kernel
theorem dL_law_1146 : decode cL_law 1146 = .ok (.aload_n 1, 1) := by decide +kernel
theorem dL_law_1147 : decode cL_law 1147 = .ok (.aload_n 0, 1) := by decide +kernel
theorem dL_law_1148 : decode cL_law 1148 = .ok (.iload 4, 2) := by decide +kernel
theorem dL_law_1150 : decode cL_law 1150 = .ok (.iconst 1, 1) := by decide +kernel
theorem dL_law_1151 : decode cL_law 1151 = .ok (.iadd, 1) := by decide +kernel
theorem dL_law_1152 : decode cL_law 1152 = .ok (.iaload, 1) := by decide +kernel
theorem dL_law_1153 : decode cL_law 1153 = .ok (.aload_n 0, 1) := by decide +kernel
theorem dL_law_1154 : decode cL_law 1154 = .ok (.iload 4, 2) := by decide +kernel
theorem dL_law_1156 : decode cL_law 1156 = .ok (.iconst 2, 1) := by decide +kernel
theorem dL_law_1157 : decode cL_law 1157 = .ok (.iadd, 1) := by decide +kernel
theorem dL_law_1158 : decode cL_law 1158 = .ok (.iaload, 1) := by decide +kernel
theorem dL_law_1159 : decode cL_law 1159 = .ok (.invokevirtual 141, 3) := by decide +kernel
theorem dL_law_1162 : decode cL_law 1162 = .ok (.aload_n 2, 1) := by decide +kernel
theorem dL_law_1163 : decode cL_law 1163 = .ok (.aload_n 0, 1) := by decide +kernel
theorem dL_law_1164 : decode cL_law 1164 = .ok (.iload 4, 2) := by decide +kernel
theorem dL_law_1166 : decode cL_law 1166 = .ok (.iconst 1, 1) := by decide +kernel
theorem dL_law_1167 : decode cL_law 1167 = .ok (.iadd, 1) := by decide +kernel
theorem dL_law_1168 : decode cL_law 1168 = .ok (.iaload, 1) := by decide +kernel
theorem dL_law_1169 : decode cL_law 1169 = .ok (.aload_n 0, 1) := by decide +kernel
theorem dL_law_1170 : decode cL_law 1170 = .ok (.iload 4, 2) := by decide +kernel
theorem dL_law_1172 : decode cL_law 1172 = .ok (.iconst 2, 1) := by decide +kernel
theorem dL_law_1173 : decode cL_law 1173 = .ok (.iadd, 1) := by decide +kernel
theorem dL_law_1174 : decode cL_law 1174 = .ok (.iaload, 1) := by decide +kernel
theorem dL_law_1175 : decode cL_law 1175 = .ok (.invokevirtual 144, 3) := by decide +kernel
theorem dL_law_1178 : decode cL_law 1178 = .ok (.if_icmp .eq 352, 3) := by decide +kernel
theorem dL_law_1181 : decode cL_law 1181 = .ok (.iconst 0, 1) := by decide +kernel
theorem dL_law_1182 : decode cL_law 1182 = .ok (.ireturn, 1) := by decide +kernel
theorem dL_law_1183 : decode cL_law 1183 = .ok (.aload_n 1, 1) := by decide +kernel
theorem dL_law_1184 : decode cL_law 1184 = .ok (.aload_n 0, 1) := by decide +kernel
theorem dL_law_1185 : decode cL_law 1185 = .ok (.iload 4, 2) := by decide +kernel
theorem dL_law_1187 : decode cL_law 1187 = .ok (.iconst 1, 1) := by decide +kernel
theorem dL_law_1188 : decode cL_law 1188 = .ok (.iadd, 1) := by decide +kernel
theorem dL_law_1189 : decode cL_law 1189 = .ok (.iaload, 1) := by decide +kernel
theorem dL_law_1190 : decode cL_law 1190 = .ok (.aload_n 0, 1) := by decide +kernel
theorem dL_law_1191 : decode cL_law 1191 = .ok (.iload 4, 2) := by decide +kernel
theorem dL_law_1193 : decode cL_law 1193 = .ok (.iconst 2, 1) := by decide +kernel
theorem dL_law_1194 : decode cL_law 1194 = .ok (.iadd, 1) := by decide +kernel
theorem dL_law_1195 : decode cL_law 1195 = .ok (.iaload, 1) := by decide +kernel
theorem dL_law_1196 : decode cL_law 1196 = .ok (.invokevirtual 145, 3) := by decide +kernel
theorem dL_law_1199 : decode cL_law 1199 = .ok (.aload_n 2, 1) := by decide +kernel
theorem dL_law_1200 : decode cL_law 1200 = .ok (.aload_n 0, 1) := by decide +kernel
theorem dL_law_1201 : decode cL_law 1201 = .ok (.iload 4, 2) := by decide +kernel
theorem dL_law_1203 : decode cL_law 1203 = .ok (.iconst 1, 1) := by decide +kernel
theorem dL_law_1204 : decode cL_law 1204 = .ok (.iadd, 1) := by decide +kernel
theorem dL_law_1205 : decode cL_law 1205 = .ok (.iaload, 1) := by decide +kernel
theorem dL_law_1206 : decode cL_law 1206 = .ok (.aload_n 0, 1) := by decide +kernel
theorem dL_law_1207 : decode cL_law 1207 = .ok (.iload 4, 2) := by decide +kernel
theorem dL_law_1209 : decode cL_law 1209 = .ok (.iconst 2, 1) := by decide +kernel
theorem dL_law_1210 : decode cL_law 1210 = .ok (.iadd, 1) := by decide +kernel
theorem dL_law_1211 : decode cL_law 1211 = .ok (.iaload, 1) := by decide +kernel
theorem dL_law_1212 : decode cL_law 1212 = .ok (.invokevirtual 148, 3) := by decide +kernel
theorem dL_law_1215 : decode cL_law 1215 = .ok (.if_icmp .eq 315, 3) := by decide +kernel
theorem dL_law_1218 : decode cL_law 1218 = .ok (.iconst 0, 1) := by decide +kernel
theorem dL_law_1219 : decode cL_law 1219 = .ok (.ireturn, 1) := by decide +kernel
theorem dL_law_1220 : decode cL_law 1220 = .ok (.aload_n 1, 1) := by decide +kernel
theorem dL_law_1221 : decode cL_law 1221 = .ok (.aload_n 0, 1) := by decide +kernel
theorem dL_law_1222 : decode cL_law 1222 = .ok (.iload 4, 2) := by decide +kernel
theorem dL_law_1224 : decode cL_law 1224 = .ok (.iconst 1, 1) := by decide +kernel
theorem dL_law_1225 : decode cL_law 1225 = .ok (.iadd, 1) := by decide +kernel
theorem dL_law_1226 : decode cL_law 1226 = .ok (.iaload, 1) := by decide +kernel
theorem dL_law_1227 : decode cL_law 1227 = .ok (.aload_n 0, 1) := by decide +kernel
theorem dL_law_1228 : decode cL_law 1228 = .ok (.iload 4, 2) := by decide +kernel
theorem dL_law_1230 : decode cL_law 1230 = .ok (.iconst 2, 1) := by decide +kernel
theorem dL_law_1231 : decode cL_law 1231 = .ok (.iadd, 1) := by decide +kernel
theorem dL_law_1232 : decode cL_law 1232 = .ok (.iaload, 1) := by decide +kernel
theorem dL_law_1233 : decode cL_law 1233 = .ok (.aload_n 0, 1) := by decide +kernel
theorem dL_law_1234 : decode cL_law 1234 = .ok (.iload 4, 2) := by decide +kernel
theorem dL_law_1236 : decode cL_law 1236 = .ok (.iconst 3, 1) := by decide +kernel
theorem dL_law_1237 : decode cL_law 1237 = .ok (.iadd, 1) := by decide +kernel
theorem dL_law_1238 : decode cL_law 1238 = .ok (.iaload, 1) := by decide +kernel
theorem dL_law_1239 : decode cL_law 1239 = .ok (.invokevirtual 149, 3) := by decide +kernel
theorem dL_law_1242 : decode cL_law 1242 = .ok (.aload_n 2, 1) := by decide +kernel
theorem dL_law_1243 : decode cL_law 1243 = .ok (.aload_n 0, 1) := by decide +kernel
theorem dL_law_1244 : decode cL_law 1244 = .ok (.iload 4, 2) := by decide +kernel
theorem dL_law_1246 : decode cL_law 1246 = .ok (.iconst 1, 1) := by decide +kernel
theorem dL_law_1247 : decode cL_law 1247 = .ok (.iadd, 1) := by decide +kernel
theorem dL_law_1248 : decode cL_law 1248 = .ok (.iaload, 1) := by decide +kernel
theorem dL_law_1249 : decode cL_law 1249 = .ok (.aload_n 0, 1) := by decide +kernel
theorem dL_law_1250 : decode cL_law 1250 = .ok (.iload 4, 2) := by decide +kernel
theorem dL_law_1252 : decode cL_law 1252 = .ok (.iconst 2, 1) := by decide +kernel
theorem dL_law_1253 : decode cL_law 1253 = .ok (.iadd, 1) := by decide +kernel
theorem dL_law_1254 : decode cL_law 1254 = .ok (.iaload, 1) := by decide +kernel
theorem dL_law_1255 : decode cL_law 1255 = .ok (.aload_n 0, 1) := by decide +kernel
theorem dL_law_1256 : decode cL_law 1256 = .ok (.iload 4, 2) := by decide +kernel
theorem dL_law_1258 : decode cL_law 1258 = .ok (.iconst 3, 1) := by decide +kernel
theorem dL_law_1259 : decode cL_law 1259 = .ok (.iadd, 1) := by decide +kernel
theorem dL_law_1260 : decode cL_law 1260 = .ok (.iaload, 1) := by decide +kernel
theorem dL_law_1261 : decode cL_law 1261 = .ok (.invokevirtual 152, 3) := by decide +kernel
theorem dL_law_1264 : decode cL_law 1264 = .ok (.if_icmp .eq 266, 3) := by decide +kernel
theorem dL_law_1267 : decode cL_law 1267 = .ok (.iconst 0, 1) := by decide +kernel
theorem dL_law_1268 : decode cL_law 1268 = .ok (.ireturn, 1) := by decide +kernel
theorem dL_law_1269 : decode cL_law 1269 = .ok (.aload_n 1, 1) := by decide +kernel
theorem dL_law_1270 : decode cL_law 1270 = .ok (.aload_n 0, 1) := by decide +kernel
theorem dL_law_1271 : decode cL_law 1271 = .ok (.iload 4, 2) := by decide +kernel
theorem dL_law_1273 : decode cL_law 1273 = .ok (.iconst 1, 1) := by decide +kernel
theorem dL_law_1274 : decode cL_law 1274 = .ok (.iadd, 1) := by decide +kernel
theorem dL_law_1275 : decode cL_law 1275 = .ok (.iaload, 1) := by decide +kernel
theorem dL_law_1276 : decode cL_law 1276 = .ok (.invokevirtual 153, 3) := by decide +kernel
theorem dL_law_1279 : decode cL_law 1279 = .ok (.aload_n 2, 1) := by decide +kernel
theorem dL_law_1280 : decode cL_law 1280 = .ok (.aload_n 0, 1) := by decide +kernel
theorem dL_law_1281 : decode cL_law 1281 = .ok (.iload 4, 2) := by decide +kernel
theorem dL_law_1283 : decode cL_law 1283 = .ok (.iconst 1, 1) := by decide +kernel
theorem dL_law_1284 : decode cL_law 1284 = .ok (.iadd, 1) := by decide +kernel
theorem dL_law_1285 : decode cL_law 1285 = .ok (.iaload, 1) := by decide +kernel
theorem dL_law_1286 : decode cL_law 1286 = .ok (.invokevirtual 156, 3) := by decide +kernel
theorem dL_law_1289 : decode cL_law 1289 = .ok (.if_icmp .eq 241, 3) := by decide +kernel
theorem dL_law_1292 : decode cL_law 1292 = .ok (.iconst 0, 1) := by decide +kernel
theorem dL_law_1293 : decode cL_law 1293 = .ok (.ireturn, 1) := by decide +kernel
theorem dL_law_1294 : decode cL_law 1294 = .ok (.aload_n 1, 1) := by decide +kernel
theorem dL_law_1295 : decode cL_law 1295 = .ok (.aload_n 0, 1) := by decide +kernel
theorem dL_law_1296 : decode cL_law 1296 = .ok (.iload 4, 2) := by decide +kernel
theorem dL_law_1298 : decode cL_law 1298 = .ok (.iconst 1, 1) := by decide +kernel
theorem dL_law_1299 : decode cL_law 1299 = .ok (.iadd, 1) := by decide +kernel
theorem dL_law_1300 : decode cL_law 1300 = .ok (.iaload, 1) := by decide +kernel
theorem dL_law_1301 : decode cL_law 1301 = .ok (.invokevirtual 157, 3) := by decide +kernel
theorem dL_law_1304 : decode cL_law 1304 = .ok (.aload_n 2, 1) := by decide +kernel
theorem dL_law_1305 : decode cL_law 1305 = .ok (.aload_n 0, 1) := by decide +kernel
theorem dL_law_1306 : decode cL_law 1306 = .ok (.iload 4, 2) := by decide +kernel
theorem dL_law_1308 : decode cL_law 1308 = .ok (.iconst 1, 1) := by decide +kernel
theorem dL_law_1309 : decode cL_law 1309 = .ok (.iadd, 1) := by decide +kernel
theorem dL_law_1310 : decode cL_law 1310 = .ok (.iaload, 1) := by decide +kernel
theorem dL_law_1311 : decode cL_law 1311 = .ok (.invokevirtual 160, 3) := by decide +kernel
theorem dL_law_1314 : decode cL_law 1314 = .ok (.if_icmp .eq 216, 3) := by decide +kernel
theorem dL_law_1317 : decode cL_law 1317 = .ok (.iconst 0, 1) := by decide +kernel
theorem dL_law_1318 : decode cL_law 1318 = .ok (.ireturn, 1) := by decide +kernel
theorem dL_law_1319 : decode cL_law 1319 = .ok (.aload_n 1, 1) := by decide +kernel
theorem dL_law_1320 : decode cL_law 1320 = .ok (.aload_n 0, 1) := by decide +kernel
theorem dL_law_1321 : decode cL_law 1321 = .ok (.iload 4, 2) := by decide +kernel
theorem dL_law_1323 : decode cL_law 1323 = .ok (.iconst 1, 1) := by decide +kernel
theorem dL_law_1324 : decode cL_law 1324 = .ok (.iadd, 1) := by decide +kernel
theorem dL_law_1325 : decode cL_law 1325 = .ok (.iaload, 1) := by decide +kernel
theorem dL_law_1326 : decode cL_law 1326 = .ok (.aload_n 0, 1) := by decide +kernel
theorem dL_law_1327 : decode cL_law 1327 = .ok (.iload 4, 2) := by decide +kernel
theorem dL_law_1329 : decode cL_law 1329 = .ok (.iconst 2, 1) := by decide +kernel
theorem dL_law_1330 : decode cL_law 1330 = .ok (.iadd, 1) := by decide +kernel
theorem dL_law_1331 : decode cL_law 1331 = .ok (.iaload, 1) := by decide +kernel
theorem dL_law_1332 : decode cL_law 1332 = .ok (.aload_n 0, 1) := by decide +kernel
theorem dL_law_1333 : decode cL_law 1333 = .ok (.iload 4, 2) := by decide +kernel
theorem dL_law_1335 : decode cL_law 1335 = .ok (.iconst 3, 1) := by decide +kernel
theorem dL_law_1336 : decode cL_law 1336 = .ok (.iadd, 1) := by decide +kernel
theorem dL_law_1337 : decode cL_law 1337 = .ok (.iaload, 1) := by decide +kernel
theorem dL_law_1338 : decode cL_law 1338 = .ok (.aload_n 0, 1) := by decide +kernel
theorem dL_law_1339 : decode cL_law 1339 = .ok (.iload 4, 2) := by decide +kernel
theorem dL_law_1341 : decode cL_law 1341 = .ok (.iconst 4, 1) := by decide +kernel
theorem dL_law_1342 : decode cL_law 1342 = .ok (.iadd, 1) := by decide +kernel
theorem dL_law_1343 : decode cL_law 1343 = .ok (.iaload, 1) := by decide +kernel
theorem dL_law_1344 : decode cL_law 1344 = .ok (.aload_n 0, 1) := by decide +kernel
theorem dL_law_1345 : decode cL_law 1345 = .ok (.iload 4, 2) := by decide +kernel
theorem dL_law_1347 : decode cL_law 1347 = .ok (.iconst 5, 1) := by decide +kernel
theorem dL_law_1348 : decode cL_law 1348 = .ok (.iadd, 1) := by decide +kernel
theorem dL_law_1349 : decode cL_law 1349 = .ok (.iaload, 1) := by decide +kernel
theorem dL_law_1350 : decode cL_law 1350 = .ok (.invokevirtual 161, 3) := by decide +kernel
theorem dL_law_1353 : decode cL_law 1353 = .ok (.aload_n 2, 1) := by decide +kernel
theorem dL_law_1354 : decode cL_law 1354 = .ok (.aload_n 0, 1) := by decide +kernel
theorem dL_law_1355 : decode cL_law 1355 = .ok (.iload 4, 2) := by decide +kernel
theorem dL_law_1357 : decode cL_law 1357 = .ok (.iconst 1, 1) := by decide +kernel
theorem dL_law_1358 : decode cL_law 1358 = .ok (.iadd, 1) := by decide +kernel
theorem dL_law_1359 : decode cL_law 1359 = .ok (.iaload, 1) := by decide +kernel
theorem dL_law_1360 : decode cL_law 1360 = .ok (.aload_n 0, 1) := by decide +kernel
theorem dL_law_1361 : decode cL_law 1361 = .ok (.iload 4, 2) := by decide +kernel
theorem dL_law_1363 : decode cL_law 1363 = .ok (.iconst 2, 1) := by decide +kernel
theorem dL_law_1364 : decode cL_law 1364 = .ok (.iadd, 1) := by decide +kernel
theorem dL_law_1365 : decode cL_law 1365 = .ok (.iaload, 1) := by decide +kernel
theorem dL_law_1366 : decode cL_law 1366 = .ok (.aload_n 0, 1) := by decide +kernel
theorem dL_law_1367 : decode cL_law 1367 = .ok (.iload 4, 2) := by decide +kernel
theorem dL_law_1369 : decode cL_law 1369 = .ok (.iconst 3, 1) := by decide +kernel
theorem dL_law_1370 : decode cL_law 1370 = .ok (.iadd, 1) := by decide +kernel
theorem dL_law_1371 : decode cL_law 1371 = .ok (.iaload, 1) := by decide +kernel
theorem dL_law_1372 : decode cL_law 1372 = .ok (.aload_n 0, 1) := by decide +kernel
theorem dL_law_1373 : decode cL_law 1373 = .ok (.iload 4, 2) := by decide +kernel
theorem dL_law_1375 : decode cL_law 1375 = .ok (.iconst 4, 1) := by decide +kernel
theorem dL_law_1376 : decode cL_law 1376 = .ok (.iadd, 1) := by decide +kernel
theorem dL_law_1377 : decode cL_law 1377 = .ok (.iaload, 1) := by decide +kernel
theorem dL_law_1378 : decode cL_law 1378 = .ok (.aload_n 0, 1) := by decide +kernel
theorem dL_law_1379 : decode cL_law 1379 = .ok (.iload 4, 2) := by decide +kernel
theorem dL_law_1381 : decode cL_law 1381 = .ok (.iconst 5, 1) := by decide +kernel
theorem dL_law_1382 : decode cL_law 1382 = .ok (.iadd, 1) := by decide +kernel
theorem dL_law_1383 : decode cL_law 1383 = .ok (.iaload, 1) := by decide +kernel
theorem dL_law_1384 : decode cL_law 1384 = .ok (.invokevirtual 164, 3) := by decide +kernel
theorem dL_law_1387 : decode cL_law 1387 = .ok (.if_icmp .eq 143, 3) := by decide +kernel
theorem dL_law_1390 : decode cL_law 1390 = .ok (.iconst 0, 1) := by decide +kernel
theorem dL_law_1391 : decode cL_law 1391 = .ok (.ireturn, 1) := by decide +kernel
theorem dL_law_1392 : decode cL_law 1392 = .ok (.aload_n 1, 1) := by decide +kernel
theorem dL_law_1393 : decode cL_law 1393 = .ok (.aload_n 0, 1) := by decide +kernel
theorem dL_law_1394 : decode cL_law 1394 = .ok (.iload 4, 2) := by decide +kernel
theorem dL_law_1396 : decode cL_law 1396 = .ok (.iconst 1, 1) := by decide +kernel
theorem dL_law_1397 : decode cL_law 1397 = .ok (.iadd, 1) := by decide +kernel
theorem dL_law_1398 : decode cL_law 1398 = .ok (.iaload, 1) := by decide +kernel
theorem dL_law_1399 : decode cL_law 1399 = .ok (.aload_n 0, 1) := by decide +kernel
theorem dL_law_1400 : decode cL_law 1400 = .ok (.iload 4, 2) := by decide +kernel
theorem dL_law_1402 : decode cL_law 1402 = .ok (.iconst 2, 1) := by decide +kernel
theorem dL_law_1403 : decode cL_law 1403 = .ok (.iadd, 1) := by decide +kernel
theorem dL_law_1404 : decode cL_law 1404 = .ok (.iaload, 1) := by decide +kernel
theorem dL_law_1405 : decode cL_law 1405 = .ok (.invokevirtual 165, 3) := by decide +kernel
theorem dL_law_1408 : decode cL_law 1408 = .ok (.aload_n 2, 1) := by decide +kernel
theorem dL_law_1409 : decode cL_law 1409 = .ok (.aload_n 0, 1) := by decide +kernel
theorem dL_law_1410 : decode cL_law 1410 = .ok (.iload 4, 2) := by decide +kernel
theorem dL_law_1412 : decode cL_law 1412 = .ok (.iconst 1, 1) := by decide +kernel
theorem dL_law_1413 : decode cL_law 1413 = .ok (.iadd, 1) := by decide +kernel
theorem dL_law_1414 : decode cL_law 1414 = .ok (.iaload, 1) := by decide +kernel
theorem dL_law_1415 : decode cL_law 1415 = .ok (.aload_n 0, 1) := by decide +kernel
theorem dL_law_1416 : decode cL_law 1416 = .ok (.iload 4, 2) := by decide +kernel
theorem dL_law_1418 : decode cL_law 1418 = .ok (.iconst 2, 1) := by decide +kernel
theorem dL_law_1419 : decode cL_law 1419 = .ok (.iadd, 1) := by decide +kernel
theorem dL_law_1420 : decode cL_law 1420 = .ok (.iaload, 1) := by decide +kernel
theorem dL_law_1421 : decode cL_law 1421 = .ok (.invokevirtual 168, 3) := by decide +kernel
theorem dL_law_1424 : decode cL_law 1424 = .ok (.if_icmp .eq 106, 3) := by decide +kernel
theorem dL_law_1427 : decode cL_law 1427 = .ok (.iconst 0, 1) := by decide +kernel
theorem dL_law_1428 : decode cL_law 1428 = .ok (.ireturn, 1) := by decide +kernel
theorem dL_law_1429 : decode cL_law 1429 = .ok (.aload_n 1, 1) := by decide +kernel
theorem dL_law_1430 : decode cL_law 1430 = .ok (.aload_n 0, 1) := by decide +kernel
theorem dL_law_1431 : decode cL_law 1431 = .ok (.iload 4, 2) := by decide +kernel
theorem dL_law_1433 : decode cL_law 1433 = .ok (.iconst 1, 1) := by decide +kernel
theorem dL_law_1434 : decode cL_law 1434 = .ok (.iadd, 1) := by decide +kernel
theorem dL_law_1435 : decode cL_law 1435 = .ok (.iaload, 1) := by decide +kernel
theorem dL_law_1436 : decode cL_law 1436 = .ok (.invokevirtual 169, 3) := by decide +kernel
theorem dL_law_1439 : decode cL_law 1439 = .ok (.aload_n 2, 1) := by decide +kernel
theorem dL_law_1440 : decode cL_law 1440 = .ok (.aload_n 0, 1) := by decide +kernel
theorem dL_law_1441 : decode cL_law 1441 = .ok (.iload 4, 2) := by decide +kernel
theorem dL_law_1443 : decode cL_law 1443 = .ok (.iconst 1, 1) := by decide +kernel
theorem dL_law_1444 : decode cL_law 1444 = .ok (.iadd, 1) := by decide +kernel
theorem dL_law_1445 : decode cL_law 1445 = .ok (.iaload, 1) := by decide +kernel
theorem dL_law_1446 : decode cL_law 1446 = .ok (.invokevirtual 172, 3) := by decide +kernel
theorem dL_law_1449 : decode cL_law 1449 = .ok (.if_icmp .eq 81, 3) := by decide +kernel
theorem dL_law_1452 : decode cL_law 1452 = .ok (.iconst 0, 1) := by decide +kernel
theorem dL_law_1453 : decode cL_law 1453 = .ok (.ireturn, 1) := by decide +kernel
theorem dL_law_1454 : decode cL_law 1454 = .ok (.aload_n 1, 1) := by decide +kernel
theorem dL_law_1455 : decode cL_law 1455 = .ok (.aload_n 0, 1) := by decide +kernel
theorem dL_law_1456 : decode cL_law 1456 = .ok (.iload 4, 2) := by decide +kernel
theorem dL_law_1458 : decode cL_law 1458 = .ok (.iconst 1, 1) := by decide +kernel
theorem dL_law_1459 : decode cL_law 1459 = .ok (.iadd, 1) := by decide +kernel
theorem dL_law_1460 : decode cL_law 1460 = .ok (.iaload, 1) := by decide +kernel
theorem dL_law_1461 : decode cL_law 1461 = .ok (.invokevirtual 173, 3) := by decide +kernel
theorem dL_law_1464 : decode cL_law 1464 = .ok (.aload_n 2, 1) := by decide +kernel
theorem dL_law_1465 : decode cL_law 1465 = .ok (.aload_n 0, 1) := by decide +kernel
theorem dL_law_1466 : decode cL_law 1466 = .ok (.iload 4, 2) := by decide +kernel
theorem dL_law_1468 : decode cL_law 1468 = .ok (.iconst 1, 1) := by decide +kernel
theorem dL_law_1469 : decode cL_law 1469 = .ok (.iadd, 1) := by decide +kernel
theorem dL_law_1470 : decode cL_law 1470 = .ok (.iaload, 1) := by decide +kernel
theorem dL_law_1471 : decode cL_law 1471 = .ok (.invokevirtual 176, 3) := by decide +kernel
theorem dL_law_1474 : decode cL_law 1474 = .ok (.if_icmp .eq 56, 3) := by decide +kernel
theorem dL_law_1477 : decode cL_law 1477 = .ok (.iconst 0, 1) := by decide +kernel
theorem dL_law_1478 : decode cL_law 1478 = .ok (.ireturn, 1) := by decide +kernel
theorem dL_law_1479 : decode cL_law 1479 = .ok (.aload_n 1, 1) := by decide +kernel
theorem dL_law_1480 : decode cL_law 1480 = .ok (.invokevirtual 177, 3) := by decide +kernel
theorem dL_law_1483 : decode cL_law 1483 = .ok (.aload_n 2, 1) := by decide +kernel
theorem dL_law_1484 : decode cL_law 1484 = .ok (.invokevirtual 180, 3) := by decide +kernel
theorem dL_law_1487 : decode cL_law 1487 = .ok (.if_icmp .eq 43, 3) := by decide +kernel
theorem dL_law_1490 : decode cL_law 1490 = .ok (.iconst 0, 1) := by decide +kernel
theorem dL_law_1491 : decode cL_law 1491 = .ok (.ireturn, 1) := by decide +kernel
theorem dL_law_1492 : decode cL_law 1492 = .ok (.aload_n 1, 1) := by decide +kernel
theorem dL_law_1493 : decode cL_law 1493 = .ok (.invokevirtual 181, 3) := by decide +kernel
theorem dL_law_1496 : decode cL_law 1496 = .ok (.aload_n 2, 1) := by decide +kernel
theorem dL_law_1497 : decode cL_law 1497 = .ok (.invokevirtual 184, 3) := by decide +kernel
theorem dL_law_1500 : decode cL_law 1500 = .ok (.if_icmp .eq 30, 3) := by decide +kernel
theorem dL_law_1503 : decode cL_law 1503 = .ok (.iconst 0, 1) := by decide +kernel
theorem dL_law_1504 : decode cL_law 1504 = .ok (.ireturn, 1) := by decide +kernel
theorem dL_law_1505 : decode cL_law 1505 = .ok (.aload_n 1, 1) := by decide +kernel
theorem dL_law_1506 : decode cL_law 1506 = .ok (.aload_n 0, 1) := by decide +kernel
theorem dL_law_1507 : decode cL_law 1507 = .ok (.iload 4, 2) := by decide +kernel
theorem dL_law_1509 : decode cL_law 1509 = .ok (.iconst 1, 1) := by decide +kernel
theorem dL_law_1510 : decode cL_law 1510 = .ok (.iadd, 1) := by decide +kernel
theorem dL_law_1511 : decode cL_law 1511 = .ok (.iaload, 1) := by decide +kernel
theorem dL_law_1512 : decode cL_law 1512 = .ok (.invokevirtual 185, 3) := by decide +kernel
theorem dL_law_1515 : decode cL_law 1515 = .ok (.aload_n 2, 1) := by decide +kernel
theorem dL_law_1516 : decode cL_law 1516 = .ok (.aload_n 0, 1) := by decide +kernel
theorem dL_law_1517 : decode cL_law 1517 = .ok (.iload 4, 2) := by decide +kernel
theorem dL_law_1519 : decode cL_law 1519 = .ok (.iconst 1, 1) := by decide +kernel
theorem dL_law_1520 : decode cL_law 1520 = .ok (.iadd, 1) := by decide +kernel
theorem dL_law_1521 : decode cL_law 1521 = .ok (.iaload, 1) := by decide +kernel
theorem dL_law_1522 : decode cL_law 1522 = .ok (.invokevirtual 188, 3) := by decide +kernel
theorem dL_law_1525 : decode cL_law 1525 = .ok (.if_icmp .eq 5, 3) := by decide +kernel
theorem dL_law_1528 : decode cL_law 1528 = .ok (.iconst 0, 1) := by decide +kernel
theorem dL_law_1529 : decode cL_law 1529 = .ok (.ireturn, 1) := by decide +kernel
theorem dL_law_1530 : decode cL_law 1530 = .ok (.iinc 4 6, 3) := by decide +kernel
theorem dL_law_1533 : decode cL_law 1533 = .ok (.goto (-1510), 3) := by decide +kernel
theorem dL_law_1536 : decode cL_law 1536 = .ok (.iconst 1, 1) := by decide +kernel
theorem dL_law_1537 : decode cL_law 1537 = .ok (.ireturn, 1) := by decide +kernel
abbrev vwCl : List vw_C := [(RX0, TX0, 3), (RX1, TX1, 3), (RX2, TX2, 6), (RX3, TX3, 1), (RX4, TX4, 7), (RX5, TX5, 10), (RX6, TX6, 4), (RX7, TX7, 5), (RX8, TX8, 7), (RX9, TX9, 3), (RX10, TX10, 3), (RX11, TX11, 18), (RX12, TX12, 46)]
