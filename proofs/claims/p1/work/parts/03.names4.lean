theorem dX12_meetPairs_42 : decode cX12_meetPairs 42 = .ok (.istore_n 3, 1) := by decide +kernel
theorem dX12_meetPairs_43 : decode cX12_meetPairs 43 = .ok (.aload_n 0, 1) := by decide +kernel
theorem dX12_meetPairs_44 : decode cX12_meetPairs 44 = .ok (.getfield 74, 3) := by decide +kernel
theorem dX12_meetPairs_47 : decode cX12_meetPairs 47 = .ok (.iload_n 2, 1) := by decide +kernel
theorem dX12_meetPairs_48 : decode cX12_meetPairs 48 = .ok (.iload_n 3, 1) := by decide +kernel
theorem dX12_meetPairs_49 : decode cX12_meetPairs 49 = .ok (.ifCond .eq 10, 3) := by decide +kernel
theorem dX12_meetPairs_52 : decode cX12_meetPairs 52 = .ok (.iload_n 1, 1) := by decide +kernel
theorem dX12_meetPairs_53 : decode cX12_meetPairs 53 = .ok (.bipush 10, 2) := by decide +kernel
theorem dX12_meetPairs_55 : decode cX12_meetPairs 55 = .ok (.irem, 1) := by decide +kernel
theorem dX12_meetPairs_56 : decode cX12_meetPairs 56 = .ok (.goto 5, 3) := by decide +kernel
theorem dX12_meetPairs_59 : decode cX12_meetPairs 59 = .ok (.bipush 9, 2) := by decide +kernel
theorem dX12_meetPairs_61 : decode cX12_meetPairs 61 = .ok (.iastore, 1) := by decide +kernel
theorem dX12_meetPairs_62 : decode cX12_meetPairs 62 = .ok (.iload_n 3, 1) := by decide +kernel
theorem dX12_meetPairs_63 : decode cX12_meetPairs 63 = .ok (.ifCond .eq 10, 3) := by decide +kernel
theorem dX12_meetPairs_66 : decode cX12_meetPairs 66 = .ok (.iload_n 1, 1) := by decide +kernel
theorem dX12_meetPairs_67 : decode cX12_meetPairs 67 = .ok (.bipush 10, 2) := by decide +kernel
theorem dX12_meetPairs_69 : decode cX12_meetPairs 69 = .ok (.idiv, 1) := by decide +kernel
theorem dX12_meetPairs_70 : decode cX12_meetPairs 70 = .ok (.goto 4, 3) := by decide +kernel
theorem dX12_meetPairs_73 : decode cX12_meetPairs 73 = .ok (.iload_n 1, 1) := by decide +kernel
theorem dX12_meetPairs_74 : decode cX12_meetPairs 74 = .ok (.istore_n 1, 1) := by decide +kernel
theorem dX12_meetPairs_75 : decode cX12_meetPairs 75 = .ok (.iinc 2 (-1), 3) := by decide +kernel
theorem dX12_meetPairs_78 : decode cX12_meetPairs 78 = .ok (.goto (-62), 3) := by decide +kernel
theorem dX12_meetPairs_81 : decode cX12_meetPairs 81 = .ok (.iconst 0, 1) := by decide +kernel
theorem dX12_meetPairs_82 : decode cX12_meetPairs 82 = .ok (.istore_n 2, 1) := by decide +kernel
theorem dX12_meetPairs_83 : decode cX12_meetPairs 83 = .ok (.iload_n 2, 1) := by decide +kernel
theorem dX12_meetPairs_84 : decode cX12_meetPairs 84 = .ok (.aload_n 0, 1) := by decide +kernel
theorem dX12_meetPairs_85 : decode cX12_meetPairs 85 = .ok (.getfield 252, 3) := by decide +kernel
theorem dX12_meetPairs_88 : decode cX12_meetPairs 88 = .ok (.if_icmp .ge 31, 3) := by decide +kernel
theorem dX12_meetPairs_91 : decode cX12_meetPairs 91 = .ok (.aload_n 0, 1) := by decide +kernel
theorem dX12_meetPairs_92 : decode cX12_meetPairs 92 = .ok (.getfield 74, 3) := by decide +kernel
theorem dX12_meetPairs_95 : decode cX12_meetPairs 95 = .ok (.iload_n 2, 1) := by decide +kernel
theorem dX12_meetPairs_96 : decode cX12_meetPairs 96 = .ok (.iaload, 1) := by decide +kernel
theorem dX12_meetPairs_97 : decode cX12_meetPairs 97 = .ok (.bipush 9, 2) := by decide +kernel
theorem dX12_meetPairs_99 : decode cX12_meetPairs 99 = .ok (.if_icmp .eq 14, 3) := by decide +kernel
theorem dX12_meetPairs_102 : decode cX12_meetPairs 102 = .ok (.aload_n 0, 1) := by decide +kernel
theorem dX12_meetPairs_103 : decode cX12_meetPairs 103 = .ok (.iload_n 2, 1) := by decide +kernel
theorem dX12_meetPairs_104 : decode cX12_meetPairs 104 = .ok (.aload_n 0, 1) := by decide +kernel
theorem dX12_meetPairs_105 : decode cX12_meetPairs 105 = .ok (.getfield 74, 3) := by decide +kernel
theorem dX12_meetPairs_108 : decode cX12_meetPairs 108 = .ok (.iload_n 2, 1) := by decide +kernel
theorem dX12_meetPairs_109 : decode cX12_meetPairs 109 = .ok (.iaload, 1) := by decide +kernel
theorem dX12_meetPairs_110 : decode cX12_meetPairs 110 = .ok (.invokevirtual 340, 3) := by decide +kernel
theorem dX12_meetPairs_113 : decode cX12_meetPairs 113 = .ok (.iinc 2 1, 3) := by decide +kernel
theorem dX12_meetPairs_116 : decode cX12_meetPairs 116 = .ok (.goto (-33), 3) := by decide +kernel
theorem dX12_meetPairs_119 : decode cX12_meetPairs 119 = .ok (.return_, 1) := by decide +kernel
set_option maxRecDepth 20000 in
theorem ggX12_allKnow_X12_doAllKnow : GoodIn wsX12_allKnow wsX12_doAllKnow := goodIn_r _ [8, 1, 3, 129, 130, 131, 132, 133, 134, 135, 136, 137, 138, 139, 140, 141, 142, 143, 144, 145, 146, 147, 148, 149, 150, 151, 152, 153, 154, 155, 156, 157, 158, 159, 160, 161, 162, 163, 164, 165, 166, 167, 168, 169, 170, 171, 172, 173, 174] rfl rfl
set_option maxRecDepth 20000 in
theorem gX12_allKnow_X12_doAllKnow : GoodIn wsX12_allKnow (wsV RX12 386 RX12 yX12_doAllKnow wsX12_doAllKnow) := goodIn_app (goodIn_r _ [4, 5, 6, 7] rfl rfl) ggX12_allKnow_X12_doAllKnow
set_option maxRecDepth 20000 in
theorem ggX12_allKnow_X12_meetPairs : GoodIn wsX12_allKnow wsX12_meetPairs := goodIn_r _ [12, 13, 1, 14, 15, 16, 17, 7, 18, 19, 20, 21, 22, 23, 24, 25, 26, 27, 28, 29, 30, 31, 32, 33, 3, 34, 35, 36, 37, 38, 39, 40, 41, 42, 43, 44, 45, 46, 47, 48, 49, 50, 51, 52, 53, 54, 55, 56, 57, 58, 59, 60, 61, 62, 63, 64, 65, 66, 67, 68, 69, 70, 71, 72, 73, 74, 75, 76, 77, 78, 79, 80, 81, 82, 83, 84, 85, 86, 87, 88, 89, 90, 91, 92, 93, 94, 95, 96, 97, 98, 99, 100, 101, 102, 103, 104, 105, 106, 107, 108, 109, 110, 111, 112, 113, 114, 115, 116, 117, 118, 119, 120, 129, 130, 131, 132, 133, 134, 135, 136, 137, 138, 139, 140, 141, 142, 143, 144, 145, 146, 147, 148, 149, 150, 151, 152, 153, 154, 155, 156, 157, 158, 159, 160, 161, 162, 163, 164, 165, 166, 167, 168, 169, 170, 171, 172, 173, 174] rfl rfl
set_option maxRecDepth 20000 in
theorem gX12_allKnow_X12_meetPairs : GoodIn wsX12_allKnow (wsV RX12 389 RX12 yX12_meetPairs wsX12_meetPairs) := goodIn_app (goodIn_r _ [9, 10, 11, 7] rfl rfl) ggX12_allKnow_X12_meetPairs
set_option maxRecDepth 20000 in
theorem ggX12_allKnow_X12_live : GoodIn wsX12_allKnow wsX12_live := goodIn_r _ [124, 3, 55, 56, 57, 58, 1, 125, 126, 127, 7, 128, 34, 35, 36, 37, 38, 39, 40, 41, 42, 43, 44, 25, 26, 27, 28, 29, 52, 53, 54, 59, 60, 61, 109, 110, 111, 129, 130, 131, 132, 133, 134, 135, 136, 137, 138, 139, 140, 141, 142, 143, 144, 145, 146, 147, 148, 149, 150, 151, 152, 153, 154, 155, 156, 157, 158, 159, 160, 161, 162, 163, 164, 165, 166, 167, 168, 169, 170, 171, 172, 173, 174] rfl rfl
set_option maxRecDepth 20000 in
theorem gX12_allKnow_X12_live : GoodIn wsX12_allKnow (wsV RX12 325 RX12 yX12_live wsX12_live) := goodIn_app (goodIn_r _ [121, 122, 123, 7] rfl rfl) ggX12_allKnow_X12_live
theorem dX12_allKnow_0 : decode cX12_allKnow 0 = .ok (.aload_n 0, 1) := by decide +kernel
theorem dX12_allKnow_1 : decode cX12_allKnow 1 = .ok (.getfield 252, 3) := by decide +kernel
theorem dX12_allKnow_4 : decode cX12_allKnow 4 = .ok (.ifCond .ne 5, 3) := by decide +kernel
theorem dX12_allKnow_7 : decode cX12_allKnow 7 = .ok (.iconst (-1), 1) := by decide +kernel
theorem dX12_allKnow_8 : decode cX12_allKnow 8 = .ok (.ireturn, 1) := by decide +kernel
theorem dX12_allKnow_9 : decode cX12_allKnow 9 = .ok (.iconst 0, 1) := by decide +kernel
theorem dX12_allKnow_10 : decode cX12_allKnow 10 = .ok (.istore_n 1, 1) := by decide +kernel
theorem dX12_allKnow_11 : decode cX12_allKnow 11 = .ok (.iload_n 1, 1) := by decide +kernel
theorem dX12_allKnow_12 : decode cX12_allKnow 12 = .ok (.bipush 69, 2) := by decide +kernel
theorem dX12_allKnow_14 : decode cX12_allKnow 14 = .ok (.if_icmp .ge 21, 3) := by decide +kernel
theorem dX12_allKnow_17 : decode cX12_allKnow 17 = .ok (.aload_n 0, 1) := by decide +kernel
theorem dX12_allKnow_18 : decode cX12_allKnow 18 = .ok (.getfield 77, 3) := by decide +kernel
theorem dX12_allKnow_21 : decode cX12_allKnow 21 = .ok (.iload_n 1, 1) := by decide +kernel
theorem dX12_allKnow_22 : decode cX12_allKnow 22 = .ok (.aload_n 0, 1) := by decide +kernel
theorem dX12_allKnow_23 : decode cX12_allKnow 23 = .ok (.getfield 58, 3) := by decide +kernel
theorem dX12_allKnow_26 : decode cX12_allKnow 26 = .ok (.iload_n 1, 1) := by decide +kernel
theorem dX12_allKnow_27 : decode cX12_allKnow 27 = .ok (.iaload, 1) := by decide +kernel
theorem dX12_allKnow_28 : decode cX12_allKnow 28 = .ok (.iastore, 1) := by decide +kernel
theorem dX12_allKnow_29 : decode cX12_allKnow 29 = .ok (.iinc 1 1, 3) := by decide +kernel
theorem dX12_allKnow_32 : decode cX12_allKnow 32 = .ok (.goto (-21), 3) := by decide +kernel
theorem dX12_allKnow_35 : decode cX12_allKnow 35 = .ok (.iconst 0, 1) := by decide +kernel
theorem dX12_allKnow_36 : decode cX12_allKnow 36 = .ok (.istore_n 1, 1) := by decide +kernel
theorem dX12_allKnow_37 : decode cX12_allKnow 37 = .ok (.iload_n 1, 1) := by decide +kernel
theorem dX12_allKnow_38 : decode cX12_allKnow 38 = .ok (.bipush 30, 2) := by decide +kernel
theorem dX12_allKnow_40 : decode cX12_allKnow 40 = .ok (.if_icmp .ge 24, 3) := by decide +kernel
theorem dX12_allKnow_43 : decode cX12_allKnow 43 = .ok (.aload_n 0, 1) := by decide +kernel
theorem dX12_allKnow_44 : decode cX12_allKnow 44 = .ok (.invokevirtual 386, 3) := by decide +kernel
theorem dX12_allKnow_47 : decode cX12_allKnow 47 = .ok (.ifCond .ne 17, 3) := by decide +kernel
theorem dX12_allKnow_50 : decode cX12_allKnow 50 = .ok (.aload_n 0, 1) := by decide +kernel
theorem dX12_allKnow_51 : decode cX12_allKnow 51 = .ok (.invokevirtual 389, 3) := by decide +kernel
theorem dX12_allKnow_54 : decode cX12_allKnow 54 = .ok (.aload_n 0, 1) := by decide +kernel
theorem dX12_allKnow_55 : decode cX12_allKnow 55 = .ok (.invokevirtual 325, 3) := by decide +kernel
theorem dX12_allKnow_58 : decode cX12_allKnow 58 = .ok (.iinc 1 1, 3) := by decide +kernel
theorem dX12_allKnow_61 : decode cX12_allKnow 61 = .ok (.goto (-24), 3) := by decide +kernel
theorem dX12_allKnow_64 : decode cX12_allKnow 64 = .ok (.aload_n 0, 1) := by decide +kernel
theorem dX12_allKnow_65 : decode cX12_allKnow 65 = .ok (.invokevirtual 386, 3) := by decide +kernel
theorem dX12_allKnow_68 : decode cX12_allKnow 68 = .ok (.istore_n 2, 1) := by decide +kernel
theorem dX12_allKnow_69 : decode cX12_allKnow 69 = .ok (.iconst 0, 1) := by decide +kernel
theorem dX12_allKnow_70 : decode cX12_allKnow 70 = .ok (.istore_n 3, 1) := by decide +kernel
theorem dX12_allKnow_71 : decode cX12_allKnow 71 = .ok (.iload_n 3, 1) := by decide +kernel
theorem dX12_allKnow_72 : decode cX12_allKnow 72 = .ok (.bipush 69, 2) := by decide +kernel
theorem dX12_allKnow_74 : decode cX12_allKnow 74 = .ok (.if_icmp .ge 21, 3) := by decide +kernel
theorem dX12_allKnow_77 : decode cX12_allKnow 77 = .ok (.aload_n 0, 1) := by decide +kernel
theorem dX12_allKnow_78 : decode cX12_allKnow 78 = .ok (.getfield 58, 3) := by decide +kernel
theorem dX12_allKnow_81 : decode cX12_allKnow 81 = .ok (.iload_n 3, 1) := by decide +kernel
theorem dX12_allKnow_82 : decode cX12_allKnow 82 = .ok (.aload_n 0, 1) := by decide +kernel
theorem dX12_allKnow_83 : decode cX12_allKnow 83 = .ok (.getfield 77, 3) := by decide +kernel
theorem dX12_allKnow_86 : decode cX12_allKnow 86 = .ok (.iload_n 3, 1) := by decide +kernel
theorem dX12_allKnow_87 : decode cX12_allKnow 87 = .ok (.iaload, 1) := by decide +kernel
theorem dX12_allKnow_88 : decode cX12_allKnow 88 = .ok (.iastore, 1) := by decide +kernel
theorem dX12_allKnow_89 : decode cX12_allKnow 89 = .ok (.iinc 3 1, 3) := by decide +kernel
theorem dX12_allKnow_92 : decode cX12_allKnow 92 = .ok (.goto (-21), 3) := by decide +kernel
theorem dX12_allKnow_95 : decode cX12_allKnow 95 = .ok (.iload_n 2, 1) := by decide +kernel
theorem dX12_allKnow_96 : decode cX12_allKnow 96 = .ok (.ifCond .eq 7, 3) := by decide +kernel
theorem dX12_allKnow_99 : decode cX12_allKnow 99 = .ok (.iload_n 1, 1) := by decide +kernel
theorem dX12_allKnow_100 : decode cX12_allKnow 100 = .ok (.goto 4, 3) := by decide +kernel
theorem dX12_allKnow_103 : decode cX12_allKnow 103 = .ok (.iconst (-1), 1) := by decide +kernel
theorem dX12_allKnow_104 : decode cX12_allKnow 104 = .ok (.ireturn, 1) := by decide +kernel
set_option maxRecDepth 20000 in
theorem ggX12_seen_X12_areTwo : GoodIn wsX12_seen wsX12_areTwo := goodIn_r _ [10, 11, 12, 13, 9, 14, 15, 16, 17, 18, 19, 20, 21, 22, 23, 24, 25, 26, 27, 28, 29, 30, 31, 32, 33, 34, 35, 36, 37, 38, 39, 40, 41, 42, 43, 44, 45, 46, 47, 48, 49, 50, 51, 52, 53, 54, 55, 56, 57, 58, 59, 60, 61, 62, 63, 64, 65, 66, 67, 68, 69] rfl rfl
set_option maxRecDepth 20000 in
theorem gX12_seen_X12_areTwo : GoodIn wsX12_seen (wsV RX12 316 RX12 yX12_areTwo wsX12_areTwo) := goodIn_app (goodIn_r _ [6, 7, 8, 9] rfl rfl) ggX12_seen_X12_areTwo
set_option maxRecDepth 20000 in
theorem ggX12_seen_X12_in : GoodIn wsX12_seen wsX12_in := goodIn_r _ [18] rfl rfl
set_option maxRecDepth 20000 in
theorem gX12_seen_X12_in : GoodIn wsX12_seen (va_wsS RX12 211 yX12_in wsX12_in) := goodIn_app (goodIn_r _ [16, 17, 9] rfl rfl) ggX12_seen_X12_in
theorem dX12_seen_0 : decode cX12_seen 0 = .ok (.aload_n 0, 1) := by decide +kernel
theorem dX12_seen_1 : decode cX12_seen 1 = .ok (.iload_n 1, 1) := by decide +kernel
theorem dX12_seen_2 : decode cX12_seen 2 = .ok (.iload_n 2, 1) := by decide +kernel
theorem dX12_seen_3 : decode cX12_seen 3 = .ok (.invokevirtual 316, 3) := by decide +kernel
theorem dX12_seen_6 : decode cX12_seen 6 = .ok (.ifCond .eq 23, 3) := by decide +kernel
theorem dX12_seen_9 : decode cX12_seen 9 = .ok (.iload_n 3, 1) := by decide +kernel
theorem dX12_seen_10 : decode cX12_seen 10 = .ok (.bipush (-9), 2) := by decide +kernel
theorem dX12_seen_12 : decode cX12_seen 12 = .ok (.bipush 9, 2) := by decide +kernel
theorem dX12_seen_14 : decode cX12_seen 14 = .ok (.invokestatic 211, 3) := by decide +kernel
theorem dX12_seen_17 : decode cX12_seen 17 = .ok (.ifCond .eq 12, 3) := by decide +kernel
theorem dX12_seen_20 : decode cX12_seen 20 = .ok (.aload_n 0, 1) := by decide +kernel
theorem dX12_seen_21 : decode cX12_seen 21 = .ok (.getfield 261, 3) := by decide +kernel
theorem dX12_seen_24 : decode cX12_seen 24 = .ok (.bipush 10, 2) := by decide +kernel
theorem dX12_seen_26 : decode cX12_seen 26 = .ok (.if_icmp .ne 5, 3) := by decide +kernel
theorem dX12_seen_29 : decode cX12_seen 29 = .ok (.iconst (-1), 1) := by decide +kernel
theorem dX12_seen_30 : decode cX12_seen 30 = .ok (.ireturn, 1) := by decide +kernel
theorem dX12_seen_31 : decode cX12_seen 31 = .ok (.aload_n 0, 1) := by decide +kernel
theorem dX12_seen_32 : decode cX12_seen 32 = .ok (.getfield 80, 3) := by decide +kernel
theorem dX12_seen_35 : decode cX12_seen 35 = .ok (.aload_n 0, 1) := by decide +kernel
theorem dX12_seen_36 : decode cX12_seen 36 = .ok (.getfield 261, 3) := by decide +kernel
theorem dX12_seen_39 : decode cX12_seen 39 = .ok (.iload_n 1, 1) := by decide +kernel
theorem dX12_seen_40 : decode cX12_seen 40 = .ok (.iastore, 1) := by decide +kernel
theorem dX12_seen_41 : decode cX12_seen 41 = .ok (.aload_n 0, 1) := by decide +kernel
theorem dX12_seen_42 : decode cX12_seen 42 = .ok (.getfield 83, 3) := by decide +kernel
theorem dX12_seen_45 : decode cX12_seen 45 = .ok (.aload_n 0, 1) := by decide +kernel
theorem dX12_seen_46 : decode cX12_seen 46 = .ok (.getfield 261, 3) := by decide +kernel
theorem dX12_seen_49 : decode cX12_seen 49 = .ok (.iload_n 2, 1) := by decide +kernel
theorem dX12_seen_50 : decode cX12_seen 50 = .ok (.iastore, 1) := by decide +kernel
theorem dX12_seen_51 : decode cX12_seen 51 = .ok (.aload_n 0, 1) := by decide +kernel
theorem dX12_seen_52 : decode cX12_seen 52 = .ok (.getfield 86, 3) := by decide +kernel
theorem dX12_seen_55 : decode cX12_seen 55 = .ok (.aload_n 0, 1) := by decide +kernel
theorem dX12_seen_56 : decode cX12_seen 56 = .ok (.getfield 261, 3) := by decide +kernel
theorem dX12_seen_59 : decode cX12_seen 59 = .ok (.iload_n 3, 1) := by decide +kernel
theorem dX12_seen_60 : decode cX12_seen 60 = .ok (.iastore, 1) := by decide +kernel
theorem dX12_seen_61 : decode cX12_seen 61 = .ok (.aload_n 0, 1) := by decide +kernel
theorem dX12_seen_62 : decode cX12_seen 62 = .ok (.getfield 89, 3) := by decide +kernel
theorem dX12_seen_65 : decode cX12_seen 65 = .ok (.aload_n 0, 1) := by decide +kernel
theorem dX12_seen_66 : decode cX12_seen 66 = .ok (.getfield 261, 3) := by decide +kernel
theorem dX12_seen_69 : decode cX12_seen 69 = .ok (.iload 4, 2) := by decide +kernel
theorem dX12_seen_71 : decode cX12_seen 71 = .ok (.bastore, 1) := by decide +kernel
theorem dX12_seen_72 : decode cX12_seen 72 = .ok (.aload_n 0, 1) := by decide +kernel
theorem dX12_seen_73 : decode cX12_seen 73 = .ok (.dup, 1) := by decide +kernel
theorem dX12_seen_74 : decode cX12_seen 74 = .ok (.getfield 261, 3) := by decide +kernel
theorem dX12_seen_77 : decode cX12_seen 77 = .ok (.iconst 1, 1) := by decide +kernel
theorem dX12_seen_78 : decode cX12_seen 78 = .ok (.iadd, 1) := by decide +kernel
theorem dX12_seen_79 : decode cX12_seen 79 = .ok (.putfield 261, 3) := by decide +kernel
theorem dX12_seen_82 : decode cX12_seen 82 = .ok (.aload_n 0, 1) := by decide +kernel
theorem dX12_seen_83 : decode cX12_seen 83 = .ok (.getfield 261, 3) := by decide +kernel
theorem dX12_seen_86 : decode cX12_seen 86 = .ok (.ireturn, 1) := by decide +kernel
set_option maxRecDepth 20000 in
theorem ggX12_toldRise_X12_of : GoodIn wsX12_toldRise wsX12_of := goodIn_r _ [6, 7, 54, 55, 56, 57, 58, 59, 60, 61, 62, 63, 64, 65, 66, 67, 68, 69, 70, 71, 72, 73, 74, 75, 76, 77, 78, 79, 80, 81, 82, 83, 84, 85, 86, 87, 88, 89, 90, 91, 92, 93, 94, 95, 96, 97, 98, 99] rfl rfl
set_option maxRecDepth 20000 in
theorem gX12_toldRise_X12_of : GoodIn wsX12_toldRise (wsV RX12 258 RX12 yX12_of wsX12_of) := goodIn_app (goodIn_r _ [2, 3, 4, 5] rfl rfl) ggX12_toldRise_X12_of
set_option maxRecDepth 20000 in
theorem ggX12_toldRise_X12_areAllies : GoodIn wsX12_toldRise wsX12_areAllies := goodIn_r _ [11, 2, 3, 4, 5, 6, 7, 54, 55, 56, 57, 58, 59, 60, 61, 62, 63, 64, 65, 66, 67, 68, 69, 70, 71, 72, 73, 74, 75, 76, 77, 78, 79, 80, 81, 82, 83, 84, 85, 86, 87, 88, 89, 90, 91, 92, 93, 94, 95, 96, 97, 98, 99] rfl rfl
set_option maxRecDepth 20000 in
theorem gX12_toldRise_X12_areAllies : GoodIn wsX12_toldRise (wsV RX12 287 RX12 yX12_areAllies wsX12_areAllies) := goodIn_app (goodIn_r _ [8, 9, 10, 5] rfl rfl) ggX12_toldRise_X12_areAllies
set_option maxRecDepth 20000 in
theorem ggX12_toldRise_X12_riseBy : GoodIn wsX12_toldRise wsX12_riseBy := goodIn_r _ [15, 16, 17, 18, 19, 20, 21, 22, 23, 24, 25, 26, 27, 5, 28, 29, 30, 31, 32, 33, 34, 35, 36, 37, 38, 39, 40, 41, 42, 43, 44, 45, 46, 47, 48, 49, 50, 51, 52, 53, 54, 55, 56, 57, 58, 59, 60, 61, 62, 63, 64, 65, 66, 67, 68, 69, 70, 71, 72, 73, 74, 75, 76, 77, 78, 79, 80, 81, 82, 83, 84, 85, 86, 87, 88, 89, 90, 91, 92, 93, 94, 95, 96, 97, 98, 99] rfl rfl
set_option maxRecDepth 20000 in
theorem gX12_toldRise_X12_riseBy : GoodIn wsX12_toldRise (wsV RX12 290 RX12 yX12_riseBy wsX12_riseBy) := goodIn_app (goodIn_r _ [12, 13, 14, 5] rfl rfl) ggX12_toldRise_X12_riseBy
theorem dX12_toldRise_0 : decode cX12_toldRise 0 = .ok (.aload_n 0, 1) := by decide +kernel
theorem dX12_toldRise_1 : decode cX12_toldRise 1 = .ok (.iload_n 3, 1) := by decide +kernel
theorem dX12_toldRise_2 : decode cX12_toldRise 2 = .ok (.aload_n 0, 1) := by decide +kernel
theorem dX12_toldRise_3 : decode cX12_toldRise 3 = .ok (.iload_n 2, 1) := by decide +kernel
theorem dX12_toldRise_4 : decode cX12_toldRise 4 = .ok (.iconst 1, 1) := by decide +kernel
theorem dX12_toldRise_5 : decode cX12_toldRise 5 = .ok (.invokevirtual 258, 3) := by decide +kernel
theorem dX12_toldRise_8 : decode cX12_toldRise 8 = .ok (.iadd, 1) := by decide +kernel
theorem dX12_toldRise_9 : decode cX12_toldRise 9 = .ok (.aload_n 0, 1) := by decide +kernel
theorem dX12_toldRise_10 : decode cX12_toldRise 10 = .ok (.iload_n 1, 1) := by decide +kernel
theorem dX12_toldRise_11 : decode cX12_toldRise 11 = .ok (.iconst 2, 1) := by decide +kernel
theorem dX12_toldRise_12 : decode cX12_toldRise 12 = .ok (.invokevirtual 258, 3) := by decide +kernel
theorem dX12_toldRise_15 : decode cX12_toldRise 15 = .ok (.aload_n 0, 1) := by decide +kernel
theorem dX12_toldRise_16 : decode cX12_toldRise 16 = .ok (.iload_n 2, 1) := by decide +kernel
theorem dX12_toldRise_17 : decode cX12_toldRise 17 = .ok (.iconst 2, 1) := by decide +kernel
theorem dX12_toldRise_18 : decode cX12_toldRise 18 = .ok (.invokevirtual 258, 3) := by decide +kernel
theorem dX12_toldRise_21 : decode cX12_toldRise 21 = .ok (.iadd, 1) := by decide +kernel
theorem dX12_toldRise_22 : decode cX12_toldRise 22 = .ok (.iconst 0, 1) := by decide +kernel
theorem dX12_toldRise_23 : decode cX12_toldRise 23 = .ok (.aload_n 0, 1) := by decide +kernel
theorem dX12_toldRise_24 : decode cX12_toldRise 24 = .ok (.iload_n 1, 1) := by decide +kernel
theorem dX12_toldRise_25 : decode cX12_toldRise 25 = .ok (.iload_n 2, 1) := by decide +kernel
theorem dX12_toldRise_26 : decode cX12_toldRise 26 = .ok (.invokevirtual 287, 3) := by decide +kernel
theorem dX12_toldRise_29 : decode cX12_toldRise 29 = .ok (.aload_n 0, 1) := by decide +kernel
theorem dX12_toldRise_30 : decode cX12_toldRise 30 = .ok (.getfield 49, 3) := by decide +kernel
theorem dX12_toldRise_33 : decode cX12_toldRise 33 = .ok (.iconst 0, 1) := by decide +kernel
theorem dX12_toldRise_34 : decode cX12_toldRise 34 = .ok (.iaload, 1) := by decide +kernel
theorem dX12_toldRise_35 : decode cX12_toldRise 35 = .ok (.iconst 0, 1) := by decide +kernel
theorem dX12_toldRise_36 : decode cX12_toldRise 36 = .ok (.invokevirtual 290, 3) := by decide +kernel
theorem dX12_toldRise_39 : decode cX12_toldRise 39 = .ok (.ireturn, 1) := by decide +kernel
set_option maxRecDepth 20000 in
theorem ggX12_isFreedom_X12_toldRise : GoodIn wsX12_isFreedom wsX12_toldRise := goodIn_r _ [10, 11, 12, 13, 14, 9, 15, 16, 17, 18, 19, 20, 21, 22, 23, 24, 25, 26, 27, 28, 29, 30, 31, 32, 33, 34, 35, 36, 37, 38, 39, 40, 41, 42, 43, 44, 45, 46, 47, 48, 49, 50, 51, 52, 53, 54, 55, 56, 57, 58, 59, 60, 61, 62, 63, 64, 65, 66, 67, 68, 69, 70, 71, 72, 73, 74, 75, 76, 77, 78, 79, 80, 81, 82, 83, 84, 85, 86, 87, 88, 89, 90, 91, 92, 93, 94, 95, 96, 97, 98, 99, 100, 101, 102, 103, 104, 105, 106, 107, 108] rfl rfl
set_option maxRecDepth 20000 in
theorem gX12_isFreedom_X12_toldRise : GoodIn wsX12_isFreedom (wsV RX12 392 RX12 yX12_toldRise wsX12_toldRise) := goodIn_app (goodIn_r _ [6, 7, 8, 9] rfl rfl) ggX12_isFreedom_X12_toldRise
theorem dX12_isFreedom_0 : decode cX12_isFreedom 0 = .ok (.iconst 0, 1) := by decide +kernel
theorem dX12_isFreedom_1 : decode cX12_isFreedom 1 = .ok (.istore_n 3, 1) := by decide +kernel
theorem dX12_isFreedom_2 : decode cX12_isFreedom 2 = .ok (.iload_n 3, 1) := by decide +kernel
theorem dX12_isFreedom_3 : decode cX12_isFreedom 3 = .ok (.aload_n 0, 1) := by decide +kernel
theorem dX12_isFreedom_4 : decode cX12_isFreedom 4 = .ok (.getfield 261, 3) := by decide +kernel
theorem dX12_isFreedom_7 : decode cX12_isFreedom 7 = .ok (.if_icmp .ge 89, 3) := by decide +kernel
theorem dX12_isFreedom_10 : decode cX12_isFreedom 10 = .ok (.aload_n 0, 1) := by decide +kernel
theorem dX12_isFreedom_11 : decode cX12_isFreedom 11 = .ok (.getfield 80, 3) := by decide +kernel
theorem dX12_isFreedom_14 : decode cX12_isFreedom 14 = .ok (.iload_n 3, 1) := by decide +kernel
theorem dX12_isFreedom_15 : decode cX12_isFreedom 15 = .ok (.iaload, 1) := by decide +kernel
theorem dX12_isFreedom_16 : decode cX12_isFreedom 16 = .ok (.iload_n 1, 1) := by decide +kernel
theorem dX12_isFreedom_17 : decode cX12_isFreedom 17 = .ok (.if_icmp .eq 13, 3) := by decide +kernel
theorem dX12_isFreedom_20 : decode cX12_isFreedom 20 = .ok (.aload_n 0, 1) := by decide +kernel
theorem dX12_isFreedom_21 : decode cX12_isFreedom 21 = .ok (.getfield 83, 3) := by decide +kernel
theorem dX12_isFreedom_24 : decode cX12_isFreedom 24 = .ok (.iload_n 3, 1) := by decide +kernel
theorem dX12_isFreedom_25 : decode cX12_isFreedom 25 = .ok (.iaload, 1) := by decide +kernel
theorem dX12_isFreedom_26 : decode cX12_isFreedom 26 = .ok (.iload_n 1, 1) := by decide +kernel
theorem dX12_isFreedom_27 : decode cX12_isFreedom 27 = .ok (.if_icmp .ne 63, 3) := by decide +kernel
theorem dX12_isFreedom_30 : decode cX12_isFreedom 30 = .ok (.aload_n 0, 1) := by decide +kernel
theorem dX12_isFreedom_31 : decode cX12_isFreedom 31 = .ok (.getfield 80, 3) := by decide +kernel
theorem dX12_isFreedom_34 : decode cX12_isFreedom 34 = .ok (.iload_n 3, 1) := by decide +kernel
theorem dX12_isFreedom_35 : decode cX12_isFreedom 35 = .ok (.iaload, 1) := by decide +kernel
theorem dX12_isFreedom_36 : decode cX12_isFreedom 36 = .ok (.iload_n 1, 1) := by decide +kernel
theorem dX12_isFreedom_37 : decode cX12_isFreedom 37 = .ok (.if_icmp .ne 12, 3) := by decide +kernel
theorem dX12_isFreedom_40 : decode cX12_isFreedom 40 = .ok (.aload_n 0, 1) := by decide +kernel
theorem dX12_isFreedom_41 : decode cX12_isFreedom 41 = .ok (.getfield 83, 3) := by decide +kernel
theorem dX12_isFreedom_44 : decode cX12_isFreedom 44 = .ok (.iload_n 3, 1) := by decide +kernel
theorem dX12_isFreedom_45 : decode cX12_isFreedom 45 = .ok (.iaload, 1) := by decide +kernel
theorem dX12_isFreedom_46 : decode cX12_isFreedom 46 = .ok (.goto 9, 3) := by decide +kernel
theorem dX12_isFreedom_49 : decode cX12_isFreedom 49 = .ok (.aload_n 0, 1) := by decide +kernel
theorem dX12_isFreedom_50 : decode cX12_isFreedom 50 = .ok (.getfield 80, 3) := by decide +kernel
theorem dX12_isFreedom_53 : decode cX12_isFreedom 53 = .ok (.iload_n 3, 1) := by decide +kernel
theorem dX12_isFreedom_54 : decode cX12_isFreedom 54 = .ok (.iaload, 1) := by decide +kernel
theorem dX12_isFreedom_55 : decode cX12_isFreedom 55 = .ok (.istore 4, 2) := by decide +kernel
theorem dX12_isFreedom_57 : decode cX12_isFreedom 57 = .ok (.aload_n 0, 1) := by decide +kernel
theorem dX12_isFreedom_58 : decode cX12_isFreedom 58 = .ok (.iload_n 1, 1) := by decide +kernel
theorem dX12_isFreedom_59 : decode cX12_isFreedom 59 = .ok (.iload 4, 2) := by decide +kernel
theorem dX12_isFreedom_61 : decode cX12_isFreedom 61 = .ok (.iload_n 2, 1) := by decide +kernel
theorem dX12_isFreedom_62 : decode cX12_isFreedom 62 = .ok (.invokevirtual 392, 3) := by decide +kernel
theorem dX12_isFreedom_65 : decode cX12_isFreedom 65 = .ok (.aload_n 0, 1) := by decide +kernel
theorem dX12_isFreedom_66 : decode cX12_isFreedom 66 = .ok (.getfield 86, 3) := by decide +kernel
theorem dX12_isFreedom_69 : decode cX12_isFreedom 69 = .ok (.iload_n 3, 1) := by decide +kernel
theorem dX12_isFreedom_70 : decode cX12_isFreedom 70 = .ok (.iaload, 1) := by decide +kernel
theorem dX12_isFreedom_71 : decode cX12_isFreedom 71 = .ok (.if_icmp .lt 7, 3) := by decide +kernel
theorem dX12_isFreedom_74 : decode cX12_isFreedom 74 = .ok (.iconst 1, 1) := by decide +kernel
theorem dX12_isFreedom_75 : decode cX12_isFreedom 75 = .ok (.goto 4, 3) := by decide +kernel
theorem dX12_isFreedom_78 : decode cX12_isFreedom 78 = .ok (.iconst 0, 1) := by decide +kernel
theorem dX12_isFreedom_79 : decode cX12_isFreedom 79 = .ok (.aload_n 0, 1) := by decide +kernel
theorem dX12_isFreedom_80 : decode cX12_isFreedom 80 = .ok (.getfield 89, 3) := by decide +kernel
theorem dX12_isFreedom_83 : decode cX12_isFreedom 83 = .ok (.iload_n 3, 1) := by decide +kernel
theorem dX12_isFreedom_84 : decode cX12_isFreedom 84 = .ok (.baload, 1) := by decide +kernel
theorem dX12_isFreedom_85 : decode cX12_isFreedom 85 = .ok (.if_icmp .eq 5, 3) := by decide +kernel
theorem dX12_isFreedom_88 : decode cX12_isFreedom 88 = .ok (.iconst 0, 1) := by decide +kernel
theorem dX12_isFreedom_89 : decode cX12_isFreedom 89 = .ok (.ireturn, 1) := by decide +kernel
theorem dX12_isFreedom_90 : decode cX12_isFreedom 90 = .ok (.iinc 3 1, 3) := by decide +kernel
theorem dX12_isFreedom_93 : decode cX12_isFreedom 93 = .ok (.goto (-91), 3) := by decide +kernel
theorem dX12_isFreedom_96 : decode cX12_isFreedom 96 = .ok (.iconst 1, 1) := by decide +kernel
theorem dX12_isFreedom_97 : decode cX12_isFreedom 97 = .ok (.ireturn, 1) := by decide +kernel
set_option maxRecDepth 20000 in
theorem ggX12_fits_X12_isGlove : GoodIn wsX12_fits wsX12_isGlove := goodIn_r _ [5, 6, 7, 8, 4, 9, 75, 76, 77, 78, 79, 80, 81, 82, 83, 84, 85, 86, 87, 88, 89, 90, 91, 92, 93, 94, 95, 96, 97, 98, 99, 100, 101, 102, 103, 104, 105, 106, 107, 108, 109, 110, 111, 112, 113, 114, 115, 116, 117, 118, 119, 120] rfl rfl
set_option maxRecDepth 20000 in
theorem gX12_fits_X12_isGlove : GoodIn wsX12_fits (wsV RX12 277 RX12 yX12_isGlove wsX12_isGlove) := goodIn_app (goodIn_r _ [1, 2, 3, 4] rfl rfl) ggX12_fits_X12_isGlove
set_option maxRecDepth 20000 in
theorem ggX12_fits_X12_isFreedom : GoodIn wsX12_fits wsX12_isFreedom := goodIn_r _ [13, 14, 15, 16, 17, 18, 19, 20, 21, 4, 22, 23, 24, 25, 26, 27, 28, 29, 30, 31, 32, 33, 34, 35, 36, 37, 38, 39, 40, 41, 42, 43, 44, 45, 46, 47, 48, 49, 50, 51, 52, 53, 54, 55, 56, 57, 58, 59, 60, 61, 62, 63, 64, 65, 66, 67, 68, 69, 70, 71, 72, 73, 74, 75, 76, 77, 78, 79, 80, 81, 82, 83, 84, 85, 86, 87, 88, 89, 90, 91, 92, 93, 94, 95, 96, 97, 98, 99, 100, 101, 102, 103, 104, 105, 106, 107, 108, 109, 110, 111, 112, 113, 114, 115, 116, 117, 118, 119, 120] rfl rfl
set_option maxRecDepth 20000 in
theorem gX12_fits_X12_isFreedom : GoodIn wsX12_fits (wsV RX12 395 RX12 yX12_isFreedom wsX12_isFreedom) := goodIn_app (goodIn_r _ [10, 11, 12, 4] rfl rfl) ggX12_fits_X12_isFreedom
theorem dX12_fits_0 : decode cX12_fits 0 = .ok (.aload_n 0, 1) := by decide +kernel
theorem dX12_fits_1 : decode cX12_fits 1 = .ok (.iload_n 1, 1) := by decide +kernel
theorem dX12_fits_2 : decode cX12_fits 2 = .ok (.invokevirtual 277, 3) := by decide +kernel
theorem dX12_fits_5 : decode cX12_fits 5 = .ok (.ifCond .eq 8, 3) := by decide +kernel
theorem dX12_fits_8 : decode cX12_fits 8 = .ok (.iload_n 2, 1) := by decide +kernel
theorem dX12_fits_9 : decode cX12_fits 9 = .ok (.iconst (-1), 1) := by decide +kernel
theorem dX12_fits_10 : decode cX12_fits 10 = .ok (.if_icmp .ge 5, 3) := by decide +kernel
theorem dX12_fits_13 : decode cX12_fits 13 = .ok (.iconst (-1), 1) := by decide +kernel
theorem dX12_fits_14 : decode cX12_fits 14 = .ok (.ireturn, 1) := by decide +kernel
theorem dX12_fits_15 : decode cX12_fits 15 = .ok (.iconst 0, 1) := by decide +kernel
theorem dX12_fits_16 : decode cX12_fits 16 = .ok (.istore_n 3, 1) := by decide +kernel
theorem dX12_fits_17 : decode cX12_fits 17 = .ok (.iconst 0, 1) := by decide +kernel
theorem dX12_fits_18 : decode cX12_fits 18 = .ok (.istore 4, 2) := by decide +kernel
theorem dX12_fits_20 : decode cX12_fits 20 = .ok (.iload 4, 2) := by decide +kernel
theorem dX12_fits_22 : decode cX12_fits 22 = .ok (.bipush 9, 2) := by decide +kernel
theorem dX12_fits_24 : decode cX12_fits 24 = .ok (.if_icmp .gt 30, 3) := by decide +kernel
theorem dX12_fits_27 : decode cX12_fits 27 = .ok (.aload_n 0, 1) := by decide +kernel
theorem dX12_fits_28 : decode cX12_fits 28 = .ok (.iload_n 1, 1) := by decide +kernel
theorem dX12_fits_29 : decode cX12_fits 29 = .ok (.iload 4, 2) := by decide +kernel
theorem dX12_fits_31 : decode cX12_fits 31 = .ok (.invokevirtual 395, 3) := by decide +kernel
theorem dX12_fits_34 : decode cX12_fits 34 = .ok (.ifCond .eq 14, 3) := by decide +kernel
theorem dX12_fits_37 : decode cX12_fits 37 = .ok (.iload_n 3, 1) := by decide +kernel
theorem dX12_fits_38 : decode cX12_fits 38 = .ok (.iload_n 2, 1) := by decide +kernel
theorem dX12_fits_39 : decode cX12_fits 39 = .ok (.if_icmp .ne 6, 3) := by decide +kernel
theorem dX12_fits_42 : decode cX12_fits 42 = .ok (.iload 4, 2) := by decide +kernel
theorem dX12_fits_44 : decode cX12_fits 44 = .ok (.ireturn, 1) := by decide +kernel
theorem dX12_fits_45 : decode cX12_fits 45 = .ok (.iinc 3 1, 3) := by decide +kernel
theorem dX12_fits_48 : decode cX12_fits 48 = .ok (.iinc 4 1, 3) := by decide +kernel
theorem dX12_fits_51 : decode cX12_fits 51 = .ok (.goto (-31), 3) := by decide +kernel
theorem dX12_fits_54 : decode cX12_fits 54 = .ok (.iload_n 2, 1) := by decide +kernel
theorem dX12_fits_55 : decode cX12_fits 55 = .ok (.iconst (-1), 1) := by decide +kernel
theorem dX12_fits_56 : decode cX12_fits 56 = .ok (.if_icmp .ne 7, 3) := by decide +kernel
theorem dX12_fits_59 : decode cX12_fits 59 = .ok (.iload_n 3, 1) := by decide +kernel
theorem dX12_fits_60 : decode cX12_fits 60 = .ok (.goto 4, 3) := by decide +kernel
theorem dX12_fits_63 : decode cX12_fits 63 = .ok (.iconst (-1), 1) := by decide +kernel
theorem dX12_fits_64 : decode cX12_fits 64 = .ok (.ireturn, 1) := by decide +kernel
set_option maxRecDepth 20000 in
theorem ggX12_ask_X12_isGlove : GoodIn wsX12_ask wsX12_isGlove := goodIn_r _ [10, 1, 11, 12, 9, 13, 86, 87, 88, 89, 90, 91, 92, 93, 94, 95, 96, 97, 98, 99, 100, 101, 102, 103, 104, 105, 106, 107, 108, 109, 110, 111, 112, 113, 114, 115, 116, 117, 118, 119, 120, 121, 122, 123, 124, 125, 126, 127, 128, 129, 130, 131] rfl rfl
set_option maxRecDepth 20000 in
theorem gX12_ask_X12_isGlove : GoodIn wsX12_ask (wsV RX12 277 RX12 yX12_isGlove wsX12_isGlove) := goodIn_app (goodIn_r _ [6, 7, 8, 9] rfl rfl) ggX12_ask_X12_isGlove
set_option maxRecDepth 20000 in
theorem ggX12_ask_X12_in : GoodIn wsX12_ask wsX12_in := goodIn_r _ [13] rfl rfl
set_option maxRecDepth 20000 in
theorem gX12_ask_X12_in : GoodIn wsX12_ask (va_wsS RX12 211 yX12_in wsX12_in) := goodIn_app (goodIn_r _ [11, 12, 9] rfl rfl) ggX12_ask_X12_in
set_option maxRecDepth 20000 in
theorem ggX12_ask_X12_fits : GoodIn wsX12_ask wsX12_fits := goodIn_r _ [17, 6, 7, 8, 9, 10, 1, 11, 12, 13, 18, 19, 20, 21, 22, 23, 24, 25, 26, 27, 28, 29, 30, 31, 32, 33, 34, 35, 36, 37, 38, 39, 40, 41, 42, 43, 44, 45, 46, 47, 48, 4, 49, 50, 51, 52, 53, 54, 55, 56, 57, 58, 59, 60, 61, 62, 63, 64, 65, 66, 67, 68, 69, 70, 71, 72, 73, 74, 75, 76, 77, 78, 79, 80, 81, 86, 87, 88, 89, 90, 91, 92, 93, 94, 95, 96, 97, 98, 99, 100, 101, 102, 103, 104, 105, 106, 107, 108, 109, 110, 111, 112, 113, 114, 115, 116, 117, 118, 119, 120, 121, 122, 123, 124, 125, 126, 127, 128, 129, 130, 131] rfl rfl
set_option maxRecDepth 20000 in
theorem gX12_ask_X12_fits : GoodIn wsX12_ask (wsV RX12 398 RX12 yX12_fits wsX12_fits) := goodIn_app (goodIn_r _ [14, 15, 16, 9] rfl rfl) ggX12_ask_X12_fits
set_option maxRecDepth 20000 in
theorem ggX12_ask_X12_areTwo : GoodIn wsX12_ask wsX12_areTwo := goodIn_r _ [85, 6, 7, 8, 9, 10, 1, 11, 12, 13, 32, 33, 34, 35, 36, 86, 87, 88, 89, 90, 91, 92, 93, 94, 95, 96, 97, 98, 99, 100, 101, 102, 103, 104, 105, 106, 107, 108, 109, 110, 111, 112, 113, 114, 115, 116, 117, 118, 119, 120, 121, 122, 123, 124, 125, 126, 127, 128, 129, 130, 131] rfl rfl
set_option maxRecDepth 20000 in
theorem gX12_ask_X12_areTwo : GoodIn wsX12_ask (wsV RX12 316 RX12 yX12_areTwo wsX12_areTwo) := goodIn_app (goodIn_r _ [82, 83, 84, 9] rfl rfl) ggX12_ask_X12_areTwo
set_option maxRecDepth 20000 in
theorem ggX12_ask_X12_isFreedom : GoodIn wsX12_ask wsX12_isFreedom := goodIn_r _ [21, 22, 23, 24, 25, 26, 27, 28, 29, 9, 30, 31, 32, 33, 34, 35, 36, 37, 38, 39, 40, 41, 42, 43, 44, 45, 46, 47, 48, 4, 49, 50, 51, 52, 53, 54, 55, 56, 57, 58, 59, 60, 61, 62, 63, 64, 65, 66, 67, 68, 69, 70, 71, 72, 73, 74, 75, 76, 77, 78, 79, 80, 81, 86, 87, 88, 89, 90, 91, 92, 93, 94, 95, 96, 97, 98, 99, 100, 101, 102, 103, 104, 105, 106, 107, 108, 109, 110, 111, 112, 113, 114, 115, 116, 117, 118, 119, 120, 121, 122, 123, 124, 125, 126, 127, 128, 129, 130, 131] rfl rfl
set_option maxRecDepth 20000 in
theorem gX12_ask_X12_isFreedom : GoodIn wsX12_ask (wsV RX12 395 RX12 yX12_isFreedom wsX12_isFreedom) := goodIn_app (goodIn_r _ [18, 19, 20, 9] rfl rfl) ggX12_ask_X12_isFreedom
set_option maxRecDepth 20000 in
theorem ggX12_ask_X12_toldRise : GoodIn wsX12_ask wsX12_toldRise := goodIn_r _ [30, 31, 32, 33, 34, 9, 35, 36, 37, 38, 39, 40, 41, 42, 43, 44, 45, 46, 47, 48, 4, 49, 50, 51, 52, 53, 54, 55, 56, 57, 58, 59, 60, 61, 62, 63, 64, 65, 66, 67, 68, 69, 70, 71, 72, 73, 74, 75, 76, 77, 78, 79, 80, 81, 86, 87, 88, 89, 90, 91, 92, 93, 94, 95, 96, 97, 98, 99, 100, 101, 102, 103, 104, 105, 106, 107, 108, 109, 110, 111, 112, 113, 114, 115, 116, 117, 118, 119, 120, 121, 122, 123, 124, 125, 126, 127, 128, 129, 130, 131] rfl rfl
set_option maxRecDepth 20000 in
theorem gX12_ask_X12_toldRise : GoodIn wsX12_ask (wsV RX12 392 RX12 yX12_toldRise wsX12_toldRise) := goodIn_app (goodIn_r _ [27, 28, 29, 9] rfl rfl) ggX12_ask_X12_toldRise
theorem dX12_ask_0 : decode cX12_ask 0 = .ok (.aload_n 0, 1) := by decide +kernel
theorem dX12_ask_1 : decode cX12_ask 1 = .ok (.iload_n 1, 1) := by decide +kernel
theorem dX12_ask_2 : decode cX12_ask 2 = .ok (.invokevirtual 277, 3) := by decide +kernel
theorem dX12_ask_5 : decode cX12_ask 5 = .ok (.ifCond .eq 24, 3) := by decide +kernel
theorem dX12_ask_8 : decode cX12_ask 8 = .ok (.iload_n 2, 1) := by decide +kernel
theorem dX12_ask_9 : decode cX12_ask 9 = .ok (.bipush (-9), 2) := by decide +kernel
theorem dX12_ask_11 : decode cX12_ask 11 = .ok (.bipush 9, 2) := by decide +kernel
theorem dX12_ask_13 : decode cX12_ask 13 = .ok (.invokestatic 211, 3) := by decide +kernel
theorem dX12_ask_16 : decode cX12_ask 16 = .ok (.ifCond .eq 13, 3) := by decide +kernel
theorem dX12_ask_19 : decode cX12_ask 19 = .ok (.aload_n 0, 1) := by decide +kernel
theorem dX12_ask_20 : decode cX12_ask 20 = .ok (.iload_n 1, 1) := by decide +kernel
theorem dX12_ask_21 : decode cX12_ask 21 = .ok (.iconst 0, 1) := by decide +kernel
theorem dX12_ask_22 : decode cX12_ask 22 = .ok (.invokevirtual 398, 3) := by decide +kernel
theorem dX12_ask_25 : decode cX12_ask 25 = .ok (.iconst (-1), 1) := by decide +kernel
theorem dX12_ask_26 : decode cX12_ask 26 = .ok (.if_icmp .ne 5, 3) := by decide +kernel
theorem dX12_ask_29 : decode cX12_ask 29 = .ok (.iconst (-1), 1) := by decide +kernel
theorem dX12_ask_30 : decode cX12_ask 30 = .ok (.ireturn, 1) := by decide +kernel
theorem dX12_ask_31 : decode cX12_ask 31 = .ok (.iconst (-1), 1) := by decide +kernel
theorem dX12_ask_32 : decode cX12_ask 32 = .ok (.istore_n 3, 1) := by decide +kernel
theorem dX12_ask_33 : decode cX12_ask 33 = .ok (.iconst 0, 1) := by decide +kernel
theorem dX12_ask_34 : decode cX12_ask 34 = .ok (.istore 4, 2) := by decide +kernel
theorem dX12_ask_36 : decode cX12_ask 36 = .ok (.iconst 0, 1) := by decide +kernel
theorem dX12_ask_37 : decode cX12_ask 37 = .ok (.istore 5, 2) := by decide +kernel
theorem dX12_ask_39 : decode cX12_ask 39 = .ok (.iload 5, 2) := by decide +kernel
theorem dX12_ask_41 : decode cX12_ask 41 = .ok (.aload_n 0, 1) := by decide +kernel
theorem dX12_ask_42 : decode cX12_ask 42 = .ok (.getfield 252, 3) := by decide +kernel
theorem dX12_ask_45 : decode cX12_ask 45 = .ok (.if_icmp .ge 110, 3) := by decide +kernel
theorem dX12_ask_48 : decode cX12_ask 48 = .ok (.iconst 0, 1) := by decide +kernel
theorem dX12_ask_49 : decode cX12_ask 49 = .ok (.istore 6, 2) := by decide +kernel
theorem dX12_ask_51 : decode cX12_ask 51 = .ok (.iconst 0, 1) := by decide +kernel
theorem dX12_ask_52 : decode cX12_ask 52 = .ok (.istore 7, 2) := by decide +kernel
theorem dX12_ask_54 : decode cX12_ask 54 = .ok (.iload 7, 2) := by decide +kernel
theorem dX12_ask_56 : decode cX12_ask 56 = .ok (.bipush 9, 2) := by decide +kernel
theorem dX12_ask_58 : decode cX12_ask 58 = .ok (.if_icmp .gt 56, 3) := by decide +kernel
theorem dX12_ask_61 : decode cX12_ask 61 = .ok (.iload 6, 2) := by decide +kernel
theorem dX12_ask_63 : decode cX12_ask 63 = .ok (.aload_n 0, 1) := by decide +kernel
theorem dX12_ask_64 : decode cX12_ask 64 = .ok (.iload_n 1, 1) := by decide +kernel
theorem dX12_ask_65 : decode cX12_ask 65 = .ok (.iload 5, 2) := by decide +kernel
theorem dX12_ask_67 : decode cX12_ask 67 = .ok (.invokevirtual 316, 3) := by decide +kernel
theorem dX12_ask_70 : decode cX12_ask 70 = .ok (.ifCond .eq 13, 3) := by decide +kernel
theorem dX12_ask_73 : decode cX12_ask 73 = .ok (.aload_n 0, 1) := by decide +kernel
theorem dX12_ask_74 : decode cX12_ask 74 = .ok (.iload_n 1, 1) := by decide +kernel
theorem dX12_ask_75 : decode cX12_ask 75 = .ok (.iload 7, 2) := by decide +kernel
theorem dX12_ask_77 : decode cX12_ask 77 = .ok (.invokevirtual 395, 3) := by decide +kernel
theorem dX12_ask_80 : decode cX12_ask 80 = .ok (.ifCond .ne 7, 3) := by decide +kernel
theorem dX12_ask_83 : decode cX12_ask 83 = .ok (.iconst 0, 1) := by decide +kernel
theorem dX12_ask_84 : decode cX12_ask 84 = .ok (.goto 21, 3) := by decide +kernel
theorem dX12_ask_87 : decode cX12_ask 87 = .ok (.aload_n 0, 1) := by decide +kernel
theorem dX12_ask_88 : decode cX12_ask 88 = .ok (.iload_n 1, 1) := by decide +kernel
theorem dX12_ask_89 : decode cX12_ask 89 = .ok (.iload 5, 2) := by decide +kernel
theorem dX12_ask_91 : decode cX12_ask 91 = .ok (.iload 7, 2) := by decide +kernel
theorem dX12_ask_93 : decode cX12_ask 93 = .ok (.invokevirtual 392, 3) := by decide +kernel
theorem dX12_ask_96 : decode cX12_ask 96 = .ok (.iload_n 2, 1) := by decide +kernel
theorem dX12_ask_97 : decode cX12_ask 97 = .ok (.if_icmp .lt 7, 3) := by decide +kernel
theorem dX12_ask_100 : decode cX12_ask 100 = .ok (.iconst 1, 1) := by decide +kernel
theorem dX12_ask_101 : decode cX12_ask 101 = .ok (.goto 4, 3) := by decide +kernel
theorem dX12_ask_104 : decode cX12_ask 104 = .ok (.iconst (-1), 1) := by decide +kernel
theorem dX12_ask_105 : decode cX12_ask 105 = .ok (.iadd, 1) := by decide +kernel
theorem dX12_ask_106 : decode cX12_ask 106 = .ok (.istore 6, 2) := by decide +kernel
theorem dX12_ask_108 : decode cX12_ask 108 = .ok (.iinc 7 1, 3) := by decide +kernel
theorem dX12_ask_111 : decode cX12_ask 111 = .ok (.goto (-57), 3) := by decide +kernel
theorem dX12_ask_114 : decode cX12_ask 114 = .ok (.aload_n 0, 1) := by decide +kernel
theorem dX12_ask_115 : decode cX12_ask 115 = .ok (.iload_n 1, 1) := by decide +kernel
theorem dX12_ask_116 : decode cX12_ask 116 = .ok (.iload 5, 2) := by decide +kernel
theorem dX12_ask_118 : decode cX12_ask 118 = .ok (.invokevirtual 316, 3) := by decide +kernel
theorem dX12_ask_121 : decode cX12_ask 121 = .ok (.ifCond .eq 28, 3) := by decide +kernel
theorem dX12_ask_124 : decode cX12_ask 124 = .ok (.iload_n 3, 1) := by decide +kernel
theorem dX12_ask_125 : decode cX12_ask 125 = .ok (.iconst (-1), 1) := by decide +kernel
theorem dX12_ask_126 : decode cX12_ask 126 = .ok (.if_icmp .eq 13, 3) := by decide +kernel
theorem dX12_ask_129 : decode cX12_ask 129 = .ok (.iload 6, 2) := by decide +kernel
theorem dX12_ask_131 : decode cX12_ask 131 = .ok (.invokestatic 401, 3) := by decide +kernel
theorem dX12_ask_134 : decode cX12_ask 134 = .ok (.iload 4, 2) := by decide +kernel
theorem dX12_ask_136 : decode cX12_ask 136 = .ok (.if_icmp .ge 13, 3) := by decide +kernel
theorem dX12_ask_139 : decode cX12_ask 139 = .ok (.iload 5, 2) := by decide +kernel
theorem dX12_ask_141 : decode cX12_ask 141 = .ok (.istore_n 3, 1) := by decide +kernel
theorem dX12_ask_142 : decode cX12_ask 142 = .ok (.iload 6, 2) := by decide +kernel
theorem dX12_ask_144 : decode cX12_ask 144 = .ok (.invokestatic 401, 3) := by decide +kernel
theorem dX12_ask_147 : decode cX12_ask 147 = .ok (.istore 4, 2) := by decide +kernel
theorem dX12_ask_149 : decode cX12_ask 149 = .ok (.iinc 5 1, 3) := by decide +kernel
theorem dX12_ask_152 : decode cX12_ask 152 = .ok (.goto (-113), 3) := by decide +kernel
theorem dX12_ask_155 : decode cX12_ask 155 = .ok (.iload_n 3, 1) := by decide +kernel
theorem dX12_ask_156 : decode cX12_ask 156 = .ok (.ireturn, 1) := by decide +kernel
set_option maxRecDepth 20000 in
theorem ggX12_gloveOf_X12_of : GoodIn wsX12_gloveOf wsX12_of := goodIn_r _ [6, 7, 8, 9, 10, 11, 12, 13, 14, 15, 16, 17, 18, 19, 20, 21, 22, 23, 24, 25, 26, 27, 28, 29, 30, 31, 32, 33, 34, 35, 36, 37, 38, 39, 40, 41, 42, 43, 44, 45, 46, 47, 48, 49, 50, 51, 52, 53] rfl rfl
set_option maxRecDepth 20000 in
theorem gX12_gloveOf_X12_of : GoodIn wsX12_gloveOf (wsV RX12 258 RX12 yX12_of wsX12_of) := goodIn_app (goodIn_r _ [2, 3, 4, 5] rfl rfl) ggX12_gloveOf_X12_of
theorem dX12_gloveOf_0 : decode cX12_gloveOf 0 = .ok (.iconst 0, 1) := by decide +kernel
theorem dX12_gloveOf_1 : decode cX12_gloveOf 1 = .ok (.istore_n 3, 1) := by decide +kernel
theorem dX12_gloveOf_2 : decode cX12_gloveOf 2 = .ok (.iconst 0, 1) := by decide +kernel
theorem dX12_gloveOf_3 : decode cX12_gloveOf 3 = .ok (.istore 4, 2) := by decide +kernel
theorem dX12_gloveOf_5 : decode cX12_gloveOf 5 = .ok (.iload 4, 2) := by decide +kernel
theorem dX12_gloveOf_7 : decode cX12_gloveOf 7 = .ok (.aload_n 0, 1) := by decide +kernel
theorem dX12_gloveOf_8 : decode cX12_gloveOf 8 = .ok (.getfield 252, 3) := by decide +kernel
theorem dX12_gloveOf_11 : decode cX12_gloveOf 11 = .ok (.if_icmp .ge 31, 3) := by decide +kernel
theorem dX12_gloveOf_14 : decode cX12_gloveOf 14 = .ok (.aload_n 0, 1) := by decide +kernel
theorem dX12_gloveOf_15 : decode cX12_gloveOf 15 = .ok (.iload 4, 2) := by decide +kernel
theorem dX12_gloveOf_17 : decode cX12_gloveOf 17 = .ok (.iconst 0, 1) := by decide +kernel
theorem dX12_gloveOf_18 : decode cX12_gloveOf 18 = .ok (.invokevirtual 258, 3) := by decide +kernel
theorem dX12_gloveOf_21 : decode cX12_gloveOf 21 = .ok (.iload_n 1, 1) := by decide +kernel
theorem dX12_gloveOf_22 : decode cX12_gloveOf 22 = .ok (.if_icmp .ne 14, 3) := by decide +kernel
theorem dX12_gloveOf_25 : decode cX12_gloveOf 25 = .ok (.iload_n 3, 1) := by decide +kernel
theorem dX12_gloveOf_26 : decode cX12_gloveOf 26 = .ok (.iload_n 2, 1) := by decide +kernel
theorem dX12_gloveOf_27 : decode cX12_gloveOf 27 = .ok (.if_icmp .ne 6, 3) := by decide +kernel
theorem dX12_gloveOf_30 : decode cX12_gloveOf 30 = .ok (.iload 4, 2) := by decide +kernel
theorem dX12_gloveOf_32 : decode cX12_gloveOf 32 = .ok (.ireturn, 1) := by decide +kernel
theorem dX12_gloveOf_33 : decode cX12_gloveOf 33 = .ok (.iinc 3 1, 3) := by decide +kernel
theorem dX12_gloveOf_36 : decode cX12_gloveOf 36 = .ok (.iinc 4 1, 3) := by decide +kernel
theorem dX12_gloveOf_39 : decode cX12_gloveOf 39 = .ok (.goto (-34), 3) := by decide +kernel
theorem dX12_gloveOf_42 : decode cX12_gloveOf 42 = .ok (.iconst (-1), 1) := by decide +kernel
theorem dX12_gloveOf_43 : decode cX12_gloveOf 43 = .ok (.ireturn, 1) := by decide +kernel
set_option maxRecDepth 20000 in
theorem ggX12_gameOf_X12_gloveOf : GoodIn wsX12_gameOf wsX12_gloveOf := goodIn_r _ [6, 7, 8, 9, 10, 5, 11, 12, 70, 71, 72, 73, 74, 75, 76, 77, 78, 79, 80, 81, 82, 83, 84, 85, 86, 87, 88, 89, 90, 91, 92, 93, 94, 95, 96, 97, 98, 99, 100, 101, 102, 103, 104, 105, 106, 107, 108, 109, 110, 111, 112, 113, 114, 115] rfl rfl
set_option maxRecDepth 20000 in
theorem gX12_gameOf_X12_gloveOf : GoodIn wsX12_gameOf (wsV RX12 404 RX12 yX12_gloveOf wsX12_gloveOf) := goodIn_app (goodIn_r _ [2, 3, 4, 5] rfl rfl) ggX12_gameOf_X12_gloveOf
set_option maxRecDepth 20000 in
theorem ggX12_gameOf_X12_riseOf : GoodIn wsX12_gameOf wsX12_riseOf := goodIn_r _ [16, 1, 17, 18, 5, 19, 20, 21, 22, 23, 24, 25, 26, 27, 28, 29, 30, 31, 32, 33, 34, 8, 9, 10, 11, 12, 35, 36, 37, 38, 39, 40, 41, 42, 43, 44, 45, 46, 47, 48, 49, 50, 51, 52, 53, 54, 55, 56, 57, 58, 59, 60, 61, 62, 63, 64, 65, 66, 67, 68, 69, 70, 71, 72, 73, 74, 75, 76, 77, 78, 79, 80, 81, 82, 83, 84, 85, 86, 87, 88, 89, 90, 91, 92, 93, 94, 95, 96, 97, 98, 99, 100, 101, 102, 103, 104, 105, 106, 107, 108, 109, 110, 111, 112, 113, 114, 115] rfl rfl
set_option maxRecDepth 20000 in
theorem gX12_gameOf_X12_riseOf : GoodIn wsX12_gameOf (wsV RX12 304 RX12 yX12_riseOf wsX12_riseOf) := goodIn_app (goodIn_r _ [13, 14, 15, 5] rfl rfl) ggX12_gameOf_X12_riseOf
theorem dX12_gameOf_0 : decode cX12_gameOf 0 = .ok (.aload_n 0, 1) := by decide +kernel
theorem dX12_gameOf_1 : decode cX12_gameOf 1 = .ok (.iconst 0, 1) := by decide +kernel
theorem dX12_gameOf_2 : decode cX12_gameOf 2 = .ok (.iload_n 1, 1) := by decide +kernel
theorem dX12_gameOf_3 : decode cX12_gameOf 3 = .ok (.invokevirtual 404, 3) := by decide +kernel
theorem dX12_gameOf_6 : decode cX12_gameOf 6 = .ok (.istore 4, 2) := by decide +kernel
theorem dX12_gameOf_8 : decode cX12_gameOf 8 = .ok (.aload_n 0, 1) := by decide +kernel
theorem dX12_gameOf_9 : decode cX12_gameOf 9 = .ok (.iconst 1, 1) := by decide +kernel
theorem dX12_gameOf_10 : decode cX12_gameOf 10 = .ok (.iload_n 2, 1) := by decide +kernel
theorem dX12_gameOf_11 : decode cX12_gameOf 11 = .ok (.invokevirtual 404, 3) := by decide +kernel
theorem dX12_gameOf_14 : decode cX12_gameOf 14 = .ok (.istore 5, 2) := by decide +kernel
theorem dX12_gameOf_16 : decode cX12_gameOf 16 = .ok (.iload_n 3, 1) := by decide +kernel
theorem dX12_gameOf_17 : decode cX12_gameOf 17 = .ok (.ifCond .ne 8, 3) := by decide +kernel
theorem dX12_gameOf_20 : decode cX12_gameOf 20 = .ok (.iload 4, 2) := by decide +kernel
theorem dX12_gameOf_22 : decode cX12_gameOf 22 = .ok (.goto 5, 3) := by decide +kernel
theorem dX12_gameOf_25 : decode cX12_gameOf 25 = .ok (.iload 5, 2) := by decide +kernel
theorem dX12_gameOf_27 : decode cX12_gameOf 27 = .ok (.istore 6, 2) := by decide +kernel
theorem dX12_gameOf_29 : decode cX12_gameOf 29 = .ok (.iload 6, 2) := by decide +kernel
theorem dX12_gameOf_31 : decode cX12_gameOf 31 = .ok (.iconst (-1), 1) := by decide +kernel
theorem dX12_gameOf_32 : decode cX12_gameOf 32 = .ok (.if_icmp .ne 6, 3) := by decide +kernel
theorem dX12_gameOf_35 : decode cX12_gameOf 35 = .ok (.bipush (-20), 2) := by decide +kernel
theorem dX12_gameOf_37 : decode cX12_gameOf 37 = .ok (.ireturn, 1) := by decide +kernel
theorem dX12_gameOf_38 : decode cX12_gameOf 38 = .ok (.iload 4, 2) := by decide +kernel
theorem dX12_gameOf_40 : decode cX12_gameOf 40 = .ok (.iconst (-1), 1) := by decide +kernel
theorem dX12_gameOf_41 : decode cX12_gameOf 41 = .ok (.if_icmp .eq 9, 3) := by decide +kernel
theorem dX12_gameOf_44 : decode cX12_gameOf 44 = .ok (.iload 5, 2) := by decide +kernel
theorem dX12_gameOf_46 : decode cX12_gameOf 46 = .ok (.iconst (-1), 1) := by decide +kernel
theorem dX12_gameOf_47 : decode cX12_gameOf 47 = .ok (.if_icmp .ne 7, 3) := by decide +kernel
theorem dX12_gameOf_50 : decode cX12_gameOf 50 = .ok (.iconst 0, 1) := by decide +kernel
theorem dX12_gameOf_51 : decode cX12_gameOf 51 = .ok (.goto 24, 3) := by decide +kernel
theorem dX12_gameOf_54 : decode cX12_gameOf 54 = .ok (.aload_n 0, 1) := by decide +kernel
theorem dX12_gameOf_55 : decode cX12_gameOf 55 = .ok (.iload 4, 2) := by decide +kernel
theorem dX12_gameOf_57 : decode cX12_gameOf 57 = .ok (.iload 5, 2) := by decide +kernel
theorem dX12_gameOf_59 : decode cX12_gameOf 59 = .ok (.invokevirtual 304, 3) := by decide +kernel
theorem dX12_gameOf_62 : decode cX12_gameOf 62 = .ok (.aload_n 0, 1) := by decide +kernel
theorem dX12_gameOf_63 : decode cX12_gameOf 63 = .ok (.getfield 58, 3) := by decide +kernel
theorem dX12_gameOf_66 : decode cX12_gameOf 66 = .ok (.bipush 36, 2) := by decide +kernel
theorem dX12_gameOf_68 : decode cX12_gameOf 68 = .ok (.iload 6, 2) := by decide +kernel
theorem dX12_gameOf_70 : decode cX12_gameOf 70 = .ok (.iadd, 1) := by decide +kernel
theorem dX12_gameOf_71 : decode cX12_gameOf 71 = .ok (.iaload, 1) := by decide +kernel
theorem dX12_gameOf_72 : decode cX12_gameOf 72 = .ok (.iconst 3, 1) := by decide +kernel
theorem dX12_gameOf_73 : decode cX12_gameOf 73 = .ok (.idiv, 1) := by decide +kernel
theorem dX12_gameOf_74 : decode cX12_gameOf 74 = .ok (.isub, 1) := by decide +kernel
theorem dX12_gameOf_75 : decode cX12_gameOf 75 = .ok (.ireturn, 1) := by decide +kernel
set_option maxRecDepth 20000 in
theorem ggX12_game_X12_in : GoodIn wsX12_game wsX12_in := goodIn_r _ [6] rfl rfl
set_option maxRecDepth 20000 in
theorem gX12_game_X12_in : GoodIn wsX12_game (va_wsS RX12 211 yX12_in wsX12_in) := goodIn_app (goodIn_r _ [3, 4, 5] rfl rfl) ggX12_game_X12_in
set_option maxRecDepth 20000 in
theorem ggX12_game_X12_gameOf : GoodIn wsX12_game wsX12_gameOf := goodIn_r _ [10, 11, 12, 13, 14, 5, 15, 1, 16, 17, 18, 19, 20, 21, 22, 23, 24, 25, 26, 27, 28, 29, 30, 31, 32, 33, 34, 35, 36, 37, 38, 39, 40, 41, 42, 43, 44, 45, 46, 47, 48, 49, 50, 51, 52, 53, 54, 55, 56, 57, 58, 59, 60, 61, 62, 63, 64, 65, 66, 67, 68, 69, 70, 71, 72, 73, 74, 75, 76, 77, 78, 79, 80, 81, 82, 83, 84, 85, 86, 87, 88, 89, 90, 91, 92, 93, 94, 95, 96, 97, 98, 99, 100, 101, 102, 103, 104, 105, 106, 107, 108, 109, 110, 111, 112, 113, 114, 115, 116, 117, 118, 119, 120, 121, 122, 123] rfl rfl
set_option maxRecDepth 20000 in
theorem gX12_game_X12_gameOf : GoodIn wsX12_game (wsV RX12 407 RX12 yX12_gameOf wsX12_gameOf) := goodIn_app (goodIn_r _ [7, 8, 9, 5] rfl rfl) ggX12_game_X12_gameOf
theorem dX12_game_0 : decode cX12_game 0 = .ok (.aload_n 0, 1) := by decide +kernel
theorem dX12_game_1 : decode cX12_game 1 = .ok (.getfield 252, 3) := by decide +kernel
theorem dX12_game_4 : decode cX12_game 4 = .ok (.ifCond .eq 30, 3) := by decide +kernel
theorem dX12_game_7 : decode cX12_game 7 = .ok (.iload_n 1, 1) := by decide +kernel
theorem dX12_game_8 : decode cX12_game 8 = .ok (.iconst 0, 1) := by decide +kernel
theorem dX12_game_9 : decode cX12_game 9 = .ok (.iconst 4, 1) := by decide +kernel
theorem dX12_game_10 : decode cX12_game 10 = .ok (.invokestatic 211, 3) := by decide +kernel
theorem dX12_game_13 : decode cX12_game 13 = .ok (.ifCond .eq 21, 3) := by decide +kernel
theorem dX12_game_16 : decode cX12_game 16 = .ok (.iload_n 2, 1) := by decide +kernel
theorem dX12_game_17 : decode cX12_game 17 = .ok (.iconst 0, 1) := by decide +kernel
theorem dX12_game_18 : decode cX12_game 18 = .ok (.iconst 4, 1) := by decide +kernel
theorem dX12_game_19 : decode cX12_game 19 = .ok (.invokestatic 211, 3) := by decide +kernel
theorem dX12_game_22 : decode cX12_game 22 = .ok (.ifCond .eq 12, 3) := by decide +kernel
theorem dX12_game_25 : decode cX12_game 25 = .ok (.iload_n 3, 1) := by decide +kernel
theorem dX12_game_26 : decode cX12_game 26 = .ok (.iconst 0, 1) := by decide +kernel
theorem dX12_game_27 : decode cX12_game 27 = .ok (.iconst 1, 1) := by decide +kernel
theorem dX12_game_28 : decode cX12_game 28 = .ok (.invokestatic 211, 3) := by decide +kernel
theorem dX12_game_31 : decode cX12_game 31 = .ok (.ifCond .ne 9, 3) := by decide +kernel
theorem dX12_game_34 : decode cX12_game 34 = .ok (.ldc_w 363, 3) := by decide +kernel
theorem dX12_game_37 : decode cX12_game 37 = .ok (.goto 10, 3) := by decide +kernel
theorem dX12_game_40 : decode cX12_game 40 = .ok (.aload_n 0, 1) := by decide +kernel
theorem dX12_game_41 : decode cX12_game 41 = .ok (.iload_n 1, 1) := by decide +kernel
theorem dX12_game_42 : decode cX12_game 42 = .ok (.iload_n 2, 1) := by decide +kernel
theorem dX12_game_43 : decode cX12_game 43 = .ok (.iload_n 3, 1) := by decide +kernel
theorem dX12_game_44 : decode cX12_game 44 = .ok (.invokevirtual 407, 3) := by decide +kernel
theorem dX12_game_47 : decode cX12_game 47 = .ok (.ireturn, 1) := by decide +kernel
set_option maxRecDepth 20000 in
theorem ggX12_manyOf_X12_of : GoodIn wsX12_manyOf wsX12_of := goodIn_r _ [6, 7, 8, 9, 10, 11, 12, 13, 14, 15, 16, 17, 18, 19, 20, 21, 22, 23, 24, 25, 26, 27, 28, 29, 30, 31, 32, 33, 34, 35, 36, 37, 38, 39, 40, 41, 42, 43, 44, 45, 46, 47, 48, 49, 50, 51, 52, 53] rfl rfl
set_option maxRecDepth 20000 in
theorem gX12_manyOf_X12_of : GoodIn wsX12_manyOf (wsV RX12 258 RX12 yX12_of wsX12_of) := goodIn_app (goodIn_r _ [2, 3, 4, 5] rfl rfl) ggX12_manyOf_X12_of
theorem dX12_manyOf_0 : decode cX12_manyOf 0 = .ok (.iconst 0, 1) := by decide +kernel
theorem dX12_manyOf_1 : decode cX12_manyOf 1 = .ok (.istore_n 2, 1) := by decide +kernel
theorem dX12_manyOf_2 : decode cX12_manyOf 2 = .ok (.iconst 0, 1) := by decide +kernel
theorem dX12_manyOf_3 : decode cX12_manyOf 3 = .ok (.istore_n 3, 1) := by decide +kernel
theorem dX12_manyOf_4 : decode cX12_manyOf 4 = .ok (.iload_n 3, 1) := by decide +kernel
theorem dX12_manyOf_5 : decode cX12_manyOf 5 = .ok (.aload_n 0, 1) := by decide +kernel
theorem dX12_manyOf_6 : decode cX12_manyOf 6 = .ok (.getfield 252, 3) := by decide +kernel
theorem dX12_manyOf_9 : decode cX12_manyOf 9 = .ok (.if_icmp .ge 27, 3) := by decide +kernel
theorem dX12_manyOf_12 : decode cX12_manyOf 12 = .ok (.iload_n 2, 1) := by decide +kernel
theorem dX12_manyOf_13 : decode cX12_manyOf 13 = .ok (.aload_n 0, 1) := by decide +kernel
theorem dX12_manyOf_14 : decode cX12_manyOf 14 = .ok (.iload_n 3, 1) := by decide +kernel
theorem dX12_manyOf_15 : decode cX12_manyOf 15 = .ok (.iconst 0, 1) := by decide +kernel
theorem dX12_manyOf_16 : decode cX12_manyOf 16 = .ok (.invokevirtual 258, 3) := by decide +kernel
theorem dX12_manyOf_19 : decode cX12_manyOf 19 = .ok (.iload_n 1, 1) := by decide +kernel
theorem dX12_manyOf_20 : decode cX12_manyOf 20 = .ok (.if_icmp .ne 7, 3) := by decide +kernel
theorem dX12_manyOf_23 : decode cX12_manyOf 23 = .ok (.iconst 1, 1) := by decide +kernel
theorem dX12_manyOf_24 : decode cX12_manyOf 24 = .ok (.goto 4, 3) := by decide +kernel
theorem dX12_manyOf_27 : decode cX12_manyOf 27 = .ok (.iconst 0, 1) := by decide +kernel
theorem dX12_manyOf_28 : decode cX12_manyOf 28 = .ok (.iadd, 1) := by decide +kernel
theorem dX12_manyOf_29 : decode cX12_manyOf 29 = .ok (.istore_n 2, 1) := by decide +kernel
theorem dX12_manyOf_30 : decode cX12_manyOf 30 = .ok (.iinc 3 1, 3) := by decide +kernel
theorem dX12_manyOf_33 : decode cX12_manyOf 33 = .ok (.goto (-29), 3) := by decide +kernel
theorem dX12_manyOf_36 : decode cX12_manyOf 36 = .ok (.iload_n 2, 1) := by decide +kernel
theorem dX12_manyOf_37 : decode cX12_manyOf 37 = .ok (.ireturn, 1) := by decide +kernel
set_option maxRecDepth 20000 in
theorem ggX12_leastOf_X12_manyOf : GoodIn wsX12_leastOf wsX12_manyOf := goodIn_r _ [9, 10, 11, 12, 13, 8, 14, 15, 78, 79, 80, 81, 82, 83, 84, 85, 86, 87, 88, 89, 90, 91, 92, 93, 94, 95, 96, 97, 98, 99, 100, 101, 102, 103, 104, 105, 106, 107, 108, 109, 110, 111, 112, 113, 114, 115, 116, 117, 118, 119, 120, 121, 122, 123] rfl rfl
set_option maxRecDepth 20000 in
theorem gX12_leastOf_X12_manyOf : GoodIn wsX12_leastOf (wsV RX12 410 RX12 yX12_manyOf wsX12_manyOf) := goodIn_app (goodIn_r _ [5, 6, 7, 8] rfl rfl) ggX12_leastOf_X12_manyOf
set_option maxRecDepth 20000 in
theorem ggX12_leastOf_X12_gameOf : GoodIn wsX12_leastOf wsX12_gameOf := goodIn_r _ [19, 20, 21, 22, 23, 8, 24, 10, 11, 12, 13, 14, 15, 25, 26, 27, 28, 29, 30, 31, 1, 2, 3, 4, 32, 33, 34, 35, 36, 37, 38, 39, 40, 41, 42, 43, 44, 45, 46, 47, 48, 49, 50, 51, 52, 53, 54, 55, 56, 57, 58, 59, 60, 61, 62, 63, 64, 65, 66, 67, 68, 69, 70, 71, 72, 73, 74, 75, 76, 77, 78, 79, 80, 81, 82, 83, 84, 85, 86, 87, 88, 89, 90, 91, 92, 93, 94, 95, 96, 97, 98, 99, 100, 101, 102, 103, 104, 105, 106, 107, 108, 109, 110, 111, 112, 113, 114, 115, 116, 117, 118, 119, 120, 121, 122, 123] rfl rfl
set_option maxRecDepth 20000 in
theorem gX12_leastOf_X12_gameOf : GoodIn wsX12_leastOf (wsV RX12 407 RX12 yX12_gameOf wsX12_gameOf) := goodIn_app (goodIn_r _ [16, 17, 18, 8] rfl rfl) ggX12_leastOf_X12_gameOf
theorem dX12_leastOf_0 : decode cX12_leastOf 0 = .ok (.bipush 99, 2) := by decide +kernel
theorem dX12_leastOf_2 : decode cX12_leastOf 2 = .ok (.istore_n 3, 1) := by decide +kernel
theorem dX12_leastOf_3 : decode cX12_leastOf 3 = .ok (.iconst 0, 1) := by decide +kernel
theorem dX12_leastOf_4 : decode cX12_leastOf 4 = .ok (.istore 4, 2) := by decide +kernel
theorem dX12_leastOf_6 : decode cX12_leastOf 6 = .ok (.iload 4, 2) := by decide +kernel
theorem dX12_leastOf_8 : decode cX12_leastOf 8 = .ok (.aload_n 0, 1) := by decide +kernel
theorem dX12_leastOf_9 : decode cX12_leastOf 9 = .ok (.iconst 1, 1) := by decide +kernel
theorem dX12_leastOf_10 : decode cX12_leastOf 10 = .ok (.iload_n 1, 1) := by decide +kernel
theorem dX12_leastOf_11 : decode cX12_leastOf 11 = .ok (.isub, 1) := by decide +kernel
theorem dX12_leastOf_12 : decode cX12_leastOf 12 = .ok (.invokevirtual 410, 3) := by decide +kernel
theorem dX12_leastOf_15 : decode cX12_leastOf 15 = .ok (.if_icmp .ge 37, 3) := by decide +kernel
theorem dX12_leastOf_18 : decode cX12_leastOf 18 = .ok (.iload_n 3, 1) := by decide +kernel
theorem dX12_leastOf_19 : decode cX12_leastOf 19 = .ok (.iload_n 1, 1) := by decide +kernel
theorem dX12_leastOf_20 : decode cX12_leastOf 20 = .ok (.ifCond .ne 14, 3) := by decide +kernel
theorem dX12_leastOf_23 : decode cX12_leastOf 23 = .ok (.aload_n 0, 1) := by decide +kernel
theorem dX12_leastOf_24 : decode cX12_leastOf 24 = .ok (.iload_n 2, 1) := by decide +kernel
theorem dX12_leastOf_25 : decode cX12_leastOf 25 = .ok (.iload 4, 2) := by decide +kernel
theorem dX12_leastOf_27 : decode cX12_leastOf 27 = .ok (.iconst 0, 1) := by decide +kernel
theorem dX12_leastOf_28 : decode cX12_leastOf 28 = .ok (.invokevirtual 407, 3) := by decide +kernel
theorem dX12_leastOf_31 : decode cX12_leastOf 31 = .ok (.goto 11, 3) := by decide +kernel
theorem dX12_leastOf_34 : decode cX12_leastOf 34 = .ok (.aload_n 0, 1) := by decide +kernel
theorem dX12_leastOf_35 : decode cX12_leastOf 35 = .ok (.iload 4, 2) := by decide +kernel
theorem dX12_leastOf_37 : decode cX12_leastOf 37 = .ok (.iload_n 2, 1) := by decide +kernel
theorem dX12_leastOf_38 : decode cX12_leastOf 38 = .ok (.iconst 1, 1) := by decide +kernel
theorem dX12_leastOf_39 : decode cX12_leastOf 39 = .ok (.invokevirtual 407, 3) := by decide +kernel
theorem dX12_leastOf_42 : decode cX12_leastOf 42 = .ok (.invokestatic 280, 3) := by decide +kernel
theorem dX12_leastOf_45 : decode cX12_leastOf 45 = .ok (.istore_n 3, 1) := by decide +kernel
theorem dX12_leastOf_46 : decode cX12_leastOf 46 = .ok (.iinc 4 1, 3) := by decide +kernel
theorem dX12_leastOf_49 : decode cX12_leastOf 49 = .ok (.goto (-43), 3) := by decide +kernel
theorem dX12_leastOf_52 : decode cX12_leastOf 52 = .ok (.iload_n 3, 1) := by decide +kernel
theorem dX12_leastOf_53 : decode cX12_leastOf 53 = .ok (.ireturn, 1) := by decide +kernel
set_option maxRecDepth 20000 in
theorem ggX12_sure_X12_in : GoodIn wsX12_sure wsX12_in := goodIn_r _ [10] rfl rfl
set_option maxRecDepth 20000 in
theorem gX12_sure_X12_in : GoodIn wsX12_sure (va_wsS RX12 211 yX12_in wsX12_in) := goodIn_app (goodIn_r _ [7, 8, 9] rfl rfl) ggX12_sure_X12_in
set_option maxRecDepth 20000 in
theorem ggX12_sure_X12_manyOf : GoodIn wsX12_sure wsX12_manyOf := goodIn_r _ [14, 1, 15, 16, 17, 9, 18, 19, 86, 87, 88, 89, 90, 91, 92, 93, 94, 95, 96, 97, 98, 99, 100, 101, 102, 103, 104, 105, 106, 107, 108, 109, 110, 111, 112, 113, 114, 115, 116, 117, 118, 119, 120, 121, 122, 123, 124, 125, 126, 127, 128, 129, 130, 131] rfl rfl
set_option maxRecDepth 20000 in
theorem gX12_sure_X12_manyOf : GoodIn wsX12_sure (wsV RX12 410 RX12 yX12_manyOf wsX12_manyOf) := goodIn_app (goodIn_r _ [11, 12, 13, 9] rfl rfl) ggX12_sure_X12_manyOf
set_option maxRecDepth 20000 in
theorem ggX12_sure_X12_leastOf : GoodIn wsX12_sure wsX12_leastOf := goodIn_r _ [23, 24, 25, 5, 26, 11, 12, 13, 9, 14, 1, 15, 16, 17, 18, 19, 27, 28, 29, 30, 31, 32, 33, 34, 35, 36, 37, 38, 39, 40, 41, 42, 3, 4, 6, 43, 44, 45, 46, 47, 48, 49, 50, 51, 52, 53, 54, 55, 56, 57, 58, 59, 60, 61, 62, 63, 64, 65, 66, 67, 68, 69, 70, 71, 72, 73, 74, 75, 76, 77, 78, 79, 80, 81, 82, 83, 84, 85, 86, 87, 88, 89, 90, 91, 92, 93, 94, 95, 96, 97, 98, 99, 100, 101, 102, 103, 104, 105, 106, 107, 108, 109, 110, 111, 112, 113, 114, 115, 116, 117, 118, 119, 120, 121, 122, 123, 124, 125, 126, 127, 128, 129, 130, 131] rfl rfl
set_option maxRecDepth 20000 in
theorem gX12_sure_X12_leastOf : GoodIn wsX12_sure (wsV RX12 413 RX12 yX12_leastOf wsX12_leastOf) := goodIn_app (goodIn_r _ [20, 21, 22, 9] rfl rfl) ggX12_sure_X12_leastOf
theorem dX12_sure_0 : decode cX12_sure 0 = .ok (.aload_n 0, 1) := by decide +kernel
theorem dX12_sure_1 : decode cX12_sure 1 = .ok (.getfield 252, 3) := by decide +kernel
theorem dX12_sure_4 : decode cX12_sure 4 = .ok (.ifCond .eq 12, 3) := by decide +kernel
theorem dX12_sure_7 : decode cX12_sure 7 = .ok (.iload_n 1, 1) := by decide +kernel
theorem dX12_sure_8 : decode cX12_sure 8 = .ok (.iconst 0, 1) := by decide +kernel
theorem dX12_sure_9 : decode cX12_sure 9 = .ok (.iconst 1, 1) := by decide +kernel
theorem dX12_sure_10 : decode cX12_sure 10 = .ok (.invokestatic 211, 3) := by decide +kernel
theorem dX12_sure_13 : decode cX12_sure 13 = .ok (.ifCond .ne 7, 3) := by decide +kernel
theorem dX12_sure_16 : decode cX12_sure 16 = .ok (.ldc_w 363, 3) := by decide +kernel
theorem dX12_sure_19 : decode cX12_sure 19 = .ok (.ireturn, 1) := by decide +kernel
theorem dX12_sure_20 : decode cX12_sure 20 = .ok (.ldc_w 363, 3) := by decide +kernel
theorem dX12_sure_23 : decode cX12_sure 23 = .ok (.istore_n 2, 1) := by decide +kernel
theorem dX12_sure_24 : decode cX12_sure 24 = .ok (.iconst 0, 1) := by decide +kernel
theorem dX12_sure_25 : decode cX12_sure 25 = .ok (.istore_n 3, 1) := by decide +kernel
theorem dX12_sure_26 : decode cX12_sure 26 = .ok (.iload_n 3, 1) := by decide +kernel
theorem dX12_sure_27 : decode cX12_sure 27 = .ok (.aload_n 0, 1) := by decide +kernel
theorem dX12_sure_28 : decode cX12_sure 28 = .ok (.iload_n 1, 1) := by decide +kernel
theorem dX12_sure_29 : decode cX12_sure 29 = .ok (.invokevirtual 410, 3) := by decide +kernel
theorem dX12_sure_32 : decode cX12_sure 32 = .ok (.if_icmp .ge 20, 3) := by decide +kernel
theorem dX12_sure_35 : decode cX12_sure 35 = .ok (.iload_n 2, 1) := by decide +kernel
theorem dX12_sure_36 : decode cX12_sure 36 = .ok (.aload_n 0, 1) := by decide +kernel
theorem dX12_sure_37 : decode cX12_sure 37 = .ok (.iload_n 1, 1) := by decide +kernel
theorem dX12_sure_38 : decode cX12_sure 38 = .ok (.iload_n 3, 1) := by decide +kernel
theorem dX12_sure_39 : decode cX12_sure 39 = .ok (.invokevirtual 413, 3) := by decide +kernel
theorem dX12_sure_42 : decode cX12_sure 42 = .ok (.invokestatic 282, 3) := by decide +kernel
theorem dX12_sure_45 : decode cX12_sure 45 = .ok (.istore_n 2, 1) := by decide +kernel
theorem dX12_sure_46 : decode cX12_sure 46 = .ok (.iinc 3 1, 3) := by decide +kernel
theorem dX12_sure_49 : decode cX12_sure 49 = .ok (.goto (-23), 3) := by decide +kernel
theorem dX12_sure_52 : decode cX12_sure 52 = .ok (.iload_n 2, 1) := by decide +kernel
theorem dX12_sure_53 : decode cX12_sure 53 = .ok (.ireturn, 1) := by decide +kernel
set_option maxRecDepth 20000 in
theorem ggX12_isRest_X12_manyOf : GoodIn wsX12_isRest wsX12_manyOf := goodIn_r _ [5, 6, 7, 8, 9, 4, 10, 11, 78, 79, 80, 81, 82, 83, 84, 85, 86, 87, 88, 89, 90, 91, 92, 93, 94, 95, 96, 97, 98, 99, 100, 101, 102, 103, 104, 105, 106, 107, 108, 109, 110, 111, 112, 113, 114, 115, 116, 117, 118, 119, 120, 121, 122, 123] rfl rfl
set_option maxRecDepth 20000 in
theorem gX12_isRest_X12_manyOf : GoodIn wsX12_isRest (wsV RX12 410 RX12 yX12_manyOf wsX12_manyOf) := goodIn_app (goodIn_r _ [1, 2, 3, 4] rfl rfl) ggX12_isRest_X12_manyOf
set_option maxRecDepth 20000 in
theorem ggX12_isRest_X12_gameOf : GoodIn wsX12_isRest wsX12_gameOf := goodIn_r _ [15, 16, 17, 18, 19, 4, 20, 6, 7, 8, 9, 10, 11, 21, 22, 23, 24, 25, 26, 27, 28, 29, 30, 31, 32, 33, 34, 35, 36, 37, 38, 39, 40, 41, 42, 43, 44, 45, 46, 47, 48, 49, 50, 51, 52, 53, 54, 55, 56, 57, 58, 59, 60, 61, 62, 63, 64, 65, 66, 67, 68, 69, 70, 71, 72, 73, 74, 75, 76, 77, 78, 79, 80, 81, 82, 83, 84, 85, 86, 87, 88, 89, 90, 91, 92, 93, 94, 95, 96, 97, 98, 99, 100, 101, 102, 103, 104, 105, 106, 107, 108, 109, 110, 111, 112, 113, 114, 115, 116, 117, 118, 119, 120, 121, 122, 123] rfl rfl
set_option maxRecDepth 20000 in
theorem gX12_isRest_X12_gameOf : GoodIn wsX12_isRest (wsV RX12 407 RX12 yX12_gameOf wsX12_gameOf) := goodIn_app (goodIn_r _ [12, 13, 14, 4] rfl rfl) ggX12_isRest_X12_gameOf
theorem dX12_isRest_0 : decode cX12_isRest 0 = .ok (.iconst 1, 1) := by decide +kernel
theorem dX12_isRest_1 : decode cX12_isRest 1 = .ok (.istore_n 3, 1) := by decide +kernel
theorem dX12_isRest_2 : decode cX12_isRest 2 = .ok (.iconst 0, 1) := by decide +kernel
theorem dX12_isRest_3 : decode cX12_isRest 3 = .ok (.istore 4, 2) := by decide +kernel
theorem dX12_isRest_5 : decode cX12_isRest 5 = .ok (.iload 4, 2) := by decide +kernel
theorem dX12_isRest_7 : decode cX12_isRest 7 = .ok (.aload_n 0, 1) := by decide +kernel
theorem dX12_isRest_8 : decode cX12_isRest 8 = .ok (.iconst 0, 1) := by decide +kernel
theorem dX12_isRest_9 : decode cX12_isRest 9 = .ok (.invokevirtual 410, 3) := by decide +kernel
theorem dX12_isRest_12 : decode cX12_isRest 12 = .ok (.if_icmp .ge 37, 3) := by decide +kernel
theorem dX12_isRest_15 : decode cX12_isRest 15 = .ok (.iload_n 3, 1) := by decide +kernel
theorem dX12_isRest_16 : decode cX12_isRest 16 = .ok (.ifCond .eq 25, 3) := by decide +kernel
theorem dX12_isRest_19 : decode cX12_isRest 19 = .ok (.aload_n 0, 1) := by decide +kernel
theorem dX12_isRest_20 : decode cX12_isRest 20 = .ok (.iload 4, 2) := by decide +kernel
theorem dX12_isRest_22 : decode cX12_isRest 22 = .ok (.iload_n 2, 1) := by decide +kernel
theorem dX12_isRest_23 : decode cX12_isRest 23 = .ok (.iconst 0, 1) := by decide +kernel
theorem dX12_isRest_24 : decode cX12_isRest 24 = .ok (.invokevirtual 407, 3) := by decide +kernel
theorem dX12_isRest_27 : decode cX12_isRest 27 = .ok (.aload_n 0, 1) := by decide +kernel
theorem dX12_isRest_28 : decode cX12_isRest 28 = .ok (.iload_n 1, 1) := by decide +kernel
theorem dX12_isRest_29 : decode cX12_isRest 29 = .ok (.iload_n 2, 1) := by decide +kernel
theorem dX12_isRest_30 : decode cX12_isRest 30 = .ok (.iconst 0, 1) := by decide +kernel
theorem dX12_isRest_31 : decode cX12_isRest 31 = .ok (.invokevirtual 407, 3) := by decide +kernel
theorem dX12_isRest_34 : decode cX12_isRest 34 = .ok (.if_icmp .gt 7, 3) := by decide +kernel
theorem dX12_isRest_37 : decode cX12_isRest 37 = .ok (.iconst 1, 1) := by decide +kernel
theorem dX12_isRest_38 : decode cX12_isRest 38 = .ok (.goto 4, 3) := by decide +kernel
theorem dX12_isRest_41 : decode cX12_isRest 41 = .ok (.iconst 0, 1) := by decide +kernel
theorem dX12_isRest_42 : decode cX12_isRest 42 = .ok (.istore_n 3, 1) := by decide +kernel
theorem dX12_isRest_43 : decode cX12_isRest 43 = .ok (.iinc 4 1, 3) := by decide +kernel
theorem dX12_isRest_46 : decode cX12_isRest 46 = .ok (.goto (-41), 3) := by decide +kernel
theorem dX12_isRest_49 : decode cX12_isRest 49 = .ok (.iconst 0, 1) := by decide +kernel
theorem dX12_isRest_50 : decode cX12_isRest 50 = .ok (.istore 4, 2) := by decide +kernel
theorem dX12_isRest_52 : decode cX12_isRest 52 = .ok (.iload 4, 2) := by decide +kernel
theorem dX12_isRest_54 : decode cX12_isRest 54 = .ok (.aload_n 0, 1) := by decide +kernel
theorem dX12_isRest_55 : decode cX12_isRest 55 = .ok (.iconst 1, 1) := by decide +kernel
theorem dX12_isRest_56 : decode cX12_isRest 56 = .ok (.invokevirtual 410, 3) := by decide +kernel
theorem dX12_isRest_59 : decode cX12_isRest 59 = .ok (.if_icmp .ge 37, 3) := by decide +kernel
theorem dX12_isRest_62 : decode cX12_isRest 62 = .ok (.iload_n 3, 1) := by decide +kernel
theorem dX12_isRest_63 : decode cX12_isRest 63 = .ok (.ifCond .eq 25, 3) := by decide +kernel
theorem dX12_isRest_66 : decode cX12_isRest 66 = .ok (.aload_n 0, 1) := by decide +kernel
theorem dX12_isRest_67 : decode cX12_isRest 67 = .ok (.iload_n 1, 1) := by decide +kernel
theorem dX12_isRest_68 : decode cX12_isRest 68 = .ok (.iload 4, 2) := by decide +kernel
theorem dX12_isRest_70 : decode cX12_isRest 70 = .ok (.iconst 1, 1) := by decide +kernel
theorem dX12_isRest_71 : decode cX12_isRest 71 = .ok (.invokevirtual 407, 3) := by decide +kernel
theorem dX12_isRest_74 : decode cX12_isRest 74 = .ok (.aload_n 0, 1) := by decide +kernel
theorem dX12_isRest_75 : decode cX12_isRest 75 = .ok (.iload_n 1, 1) := by decide +kernel
theorem dX12_isRest_76 : decode cX12_isRest 76 = .ok (.iload_n 2, 1) := by decide +kernel
theorem dX12_isRest_77 : decode cX12_isRest 77 = .ok (.iconst 1, 1) := by decide +kernel
theorem dX12_isRest_78 : decode cX12_isRest 78 = .ok (.invokevirtual 407, 3) := by decide +kernel
theorem dX12_isRest_81 : decode cX12_isRest 81 = .ok (.if_icmp .gt 7, 3) := by decide +kernel
theorem dX12_isRest_84 : decode cX12_isRest 84 = .ok (.iconst 1, 1) := by decide +kernel
theorem dX12_isRest_85 : decode cX12_isRest 85 = .ok (.goto 4, 3) := by decide +kernel
theorem dX12_isRest_88 : decode cX12_isRest 88 = .ok (.iconst 0, 1) := by decide +kernel
theorem dX12_isRest_89 : decode cX12_isRest 89 = .ok (.istore_n 3, 1) := by decide +kernel
theorem dX12_isRest_90 : decode cX12_isRest 90 = .ok (.iinc 4 1, 3) := by decide +kernel
theorem dX12_isRest_93 : decode cX12_isRest 93 = .ok (.goto (-41), 3) := by decide +kernel
theorem dX12_isRest_96 : decode cX12_isRest 96 = .ok (.iload_n 3, 1) := by decide +kernel
theorem dX12_isRest_97 : decode cX12_isRest 97 = .ok (.ireturn, 1) := by decide +kernel
set_option maxRecDepth 20000 in
theorem ggX12_rests_X12_manyOf : GoodIn wsX12_rests wsX12_manyOf := goodIn_r _ [6, 1, 7, 8, 9, 5, 10, 11, 82, 83, 84, 85, 86, 87, 88, 89, 90, 91, 92, 93, 94, 95, 96, 97, 98, 99, 100, 101, 102, 103, 104, 105, 106, 107, 108, 109, 110, 111, 112, 113, 114, 115, 116, 117, 118, 119, 120, 121, 122, 123, 124, 125, 126, 127] rfl rfl
set_option maxRecDepth 20000 in
theorem gX12_rests_X12_manyOf : GoodIn wsX12_rests (wsV RX12 410 RX12 yX12_manyOf wsX12_manyOf) := goodIn_app (goodIn_r _ [2, 3, 4, 5] rfl rfl) ggX12_rests_X12_manyOf
set_option maxRecDepth 20000 in
theorem ggX12_rests_X12_isRest : GoodIn wsX12_rests wsX12_isRest := goodIn_r _ [15, 2, 3, 4, 5, 6, 1, 7, 8, 9, 10, 11, 16, 17, 18, 19, 20, 21, 22, 23, 24, 25, 26, 27, 28, 29, 30, 31, 32, 33, 34, 35, 36, 37, 38, 39, 40, 41, 42, 43, 44, 45, 46, 47, 48, 49, 50, 51, 52, 53, 54, 55, 56, 57, 58, 59, 60, 61, 62, 63, 64, 65, 66, 67, 68, 69, 70, 71, 72, 73, 74, 75, 76, 77, 78, 79, 80, 81, 82, 83, 84, 85, 86, 87, 88, 89, 90, 91, 92, 93, 94, 95, 96, 97, 98, 99, 100, 101, 102, 103, 104, 105, 106, 107, 108, 109, 110, 111, 112, 113, 114, 115, 116, 117, 118, 119, 120, 121, 122, 123, 124, 125, 126, 127] rfl rfl
set_option maxRecDepth 20000 in
theorem gX12_rests_X12_isRest : GoodIn wsX12_rests (wsV RX12 416 RX12 yX12_isRest wsX12_isRest) := goodIn_app (goodIn_r _ [12, 13, 14, 5] rfl rfl) ggX12_rests_X12_isRest
theorem dX12_rests_0 : decode cX12_rests 0 = .ok (.aload_n 0, 1) := by decide +kernel
theorem dX12_rests_1 : decode cX12_rests 1 = .ok (.getfield 252, 3) := by decide +kernel
theorem dX12_rests_4 : decode cX12_rests 4 = .ok (.ifCond .eq 8, 3) := by decide +kernel
theorem dX12_rests_7 : decode cX12_rests 7 = .ok (.iload_n 1, 1) := by decide +kernel
theorem dX12_rests_8 : decode cX12_rests 8 = .ok (.iconst (-1), 1) := by decide +kernel
theorem dX12_rests_9 : decode cX12_rests 9 = .ok (.if_icmp .ge 5, 3) := by decide +kernel
theorem dX12_rests_12 : decode cX12_rests 12 = .ok (.iconst (-1), 1) := by decide +kernel
theorem dX12_rests_13 : decode cX12_rests 13 = .ok (.ireturn, 1) := by decide +kernel
theorem dX12_rests_14 : decode cX12_rests 14 = .ok (.iconst 0, 1) := by decide +kernel
theorem dX12_rests_15 : decode cX12_rests 15 = .ok (.istore_n 2, 1) := by decide +kernel
theorem dX12_rests_16 : decode cX12_rests 16 = .ok (.iconst 0, 1) := by decide +kernel
theorem dX12_rests_17 : decode cX12_rests 17 = .ok (.istore_n 3, 1) := by decide +kernel
theorem dX12_rests_18 : decode cX12_rests 18 = .ok (.iload_n 3, 1) := by decide +kernel
theorem dX12_rests_19 : decode cX12_rests 19 = .ok (.aload_n 0, 1) := by decide +kernel
theorem dX12_rests_20 : decode cX12_rests 20 = .ok (.iconst 0, 1) := by decide +kernel
theorem dX12_rests_21 : decode cX12_rests 21 = .ok (.invokevirtual 410, 3) := by decide +kernel
theorem dX12_rests_24 : decode cX12_rests 24 = .ok (.if_icmp .ge 54, 3) := by decide +kernel
theorem dX12_rests_27 : decode cX12_rests 27 = .ok (.iconst 0, 1) := by decide +kernel
theorem dX12_rests_28 : decode cX12_rests 28 = .ok (.istore 4, 2) := by decide +kernel
theorem dX12_rests_30 : decode cX12_rests 30 = .ok (.iload 4, 2) := by decide +kernel
theorem dX12_rests_32 : decode cX12_rests 32 = .ok (.aload_n 0, 1) := by decide +kernel
theorem dX12_rests_33 : decode cX12_rests 33 = .ok (.iconst 1, 1) := by decide +kernel
theorem dX12_rests_34 : decode cX12_rests 34 = .ok (.invokevirtual 410, 3) := by decide +kernel
theorem dX12_rests_37 : decode cX12_rests 37 = .ok (.if_icmp .ge 35, 3) := by decide +kernel
theorem dX12_rests_40 : decode cX12_rests 40 = .ok (.aload_n 0, 1) := by decide +kernel
theorem dX12_rests_41 : decode cX12_rests 41 = .ok (.iload_n 3, 1) := by decide +kernel
theorem dX12_rests_42 : decode cX12_rests 42 = .ok (.iload 4, 2) := by decide +kernel
theorem dX12_rests_44 : decode cX12_rests 44 = .ok (.invokevirtual 416, 3) := by decide +kernel
theorem dX12_rests_47 : decode cX12_rests 47 = .ok (.ifCond .eq 19, 3) := by decide +kernel
theorem dX12_rests_50 : decode cX12_rests 50 = .ok (.iload_n 2, 1) := by decide +kernel
theorem dX12_rests_51 : decode cX12_rests 51 = .ok (.iload_n 1, 1) := by decide +kernel
theorem dX12_rests_52 : decode cX12_rests 52 = .ok (.if_icmp .ne 11, 3) := by decide +kernel
theorem dX12_rests_55 : decode cX12_rests 55 = .ok (.bipush 10, 2) := by decide +kernel
theorem dX12_rests_57 : decode cX12_rests 57 = .ok (.iload_n 3, 1) := by decide +kernel
theorem dX12_rests_58 : decode cX12_rests 58 = .ok (.imul, 1) := by decide +kernel
theorem dX12_rests_59 : decode cX12_rests 59 = .ok (.iload 4, 2) := by decide +kernel
theorem dX12_rests_61 : decode cX12_rests 61 = .ok (.iadd, 1) := by decide +kernel
theorem dX12_rests_62 : decode cX12_rests 62 = .ok (.ireturn, 1) := by decide +kernel
theorem dX12_rests_63 : decode cX12_rests 63 = .ok (.iinc 2 1, 3) := by decide +kernel
theorem dX12_rests_66 : decode cX12_rests 66 = .ok (.iinc 4 1, 3) := by decide +kernel
theorem dX12_rests_69 : decode cX12_rests 69 = .ok (.goto (-39), 3) := by decide +kernel
theorem dX12_rests_72 : decode cX12_rests 72 = .ok (.iinc 3 1, 3) := by decide +kernel
theorem dX12_rests_75 : decode cX12_rests 75 = .ok (.goto (-57), 3) := by decide +kernel
theorem dX12_rests_78 : decode cX12_rests 78 = .ok (.iload_n 1, 1) := by decide +kernel
theorem dX12_rests_79 : decode cX12_rests 79 = .ok (.iconst (-1), 1) := by decide +kernel
theorem dX12_rests_80 : decode cX12_rests 80 = .ok (.if_icmp .ne 7, 3) := by decide +kernel
theorem dX12_rests_83 : decode cX12_rests 83 = .ok (.iload_n 2, 1) := by decide +kernel
theorem dX12_rests_84 : decode cX12_rests 84 = .ok (.goto 4, 3) := by decide +kernel
theorem dX12_rests_87 : decode cX12_rests 87 = .ok (.iconst (-1), 1) := by decide +kernel
theorem dX12_rests_88 : decode cX12_rests 88 = .ok (.ireturn, 1) := by decide +kernel
set_option maxRecDepth 20000 in
theorem ggX12_oddsFrom_X12_riseFrom : GoodIn wsX12_oddsFrom wsX12_riseFrom := goodIn_r _ [7, 2, 8, 9, 10, 6, 11, 12, 13, 14, 15, 16, 17, 18, 19, 20, 21, 22, 23, 24, 25, 26, 27, 28, 29, 30, 31, 32, 33, 34, 35, 36, 37, 38, 39, 40, 41, 42, 43, 44, 45, 46, 47, 48, 49, 50, 51, 52, 53, 54, 55, 56, 57, 58, 65, 66, 67, 68, 69, 70, 71, 72, 73, 74, 75, 76, 77, 78, 79, 80, 81, 82, 83, 84, 85, 86, 87, 88, 89, 90, 91, 92, 93, 94, 95, 96, 97, 98, 99, 100, 101, 102, 103, 104, 105, 106, 107, 108, 109, 110] rfl rfl
set_option maxRecDepth 20000 in
theorem gX12_oddsFrom_X12_riseFrom : GoodIn wsX12_oddsFrom (wsV RX12 297 RX12 yX12_riseFrom wsX12_riseFrom) := goodIn_app (goodIn_r _ [3, 4, 5, 6] rfl rfl) ggX12_oddsFrom_X12_riseFrom
set_option maxRecDepth 20000 in
theorem ggX12_oddsFrom_X12_held : GoodIn wsX12_oddsFrom wsX12_held := goodIn_r _ [61, 23, 24, 25, 26, 27, 28, 29] rfl rfl
set_option maxRecDepth 20000 in
theorem gX12_oddsFrom_X12_held : GoodIn wsX12_oddsFrom (va_wsS RX12 307 yX12_held wsX12_held) := goodIn_app (goodIn_r _ [59, 60, 6] rfl rfl) ggX12_oddsFrom_X12_held
set_option maxRecDepth 20000 in
theorem ggX12_oddsFrom_X12_oddsFrom : GoodIn wsX12_oddsFrom wsX12_oddsFrom := goodIn_r _ [0, 1, 2, 3, 4, 5, 6, 7, 8, 9, 10, 11, 12, 13, 14, 15, 16, 17, 18, 19, 20, 21, 22, 23, 24, 25, 26, 27, 28, 29, 30, 31, 32, 33, 34, 35, 36, 37, 38, 39, 40, 41, 42, 43, 44, 45, 46, 47, 48, 49, 50, 51, 52, 53, 54, 55, 56, 57, 58, 59, 60, 61, 62, 63, 64, 65, 66, 67, 68, 69, 70, 71, 72, 73, 74, 75, 76, 77, 78, 79, 80, 81, 82, 83, 84, 85, 86, 87, 88, 89, 90, 91, 92, 93, 94, 95, 96, 97, 98, 99, 100, 101, 102, 103, 104, 105, 106, 107, 108, 109, 110] rfl rfl
set_option maxRecDepth 20000 in
theorem gX12_oddsFrom_X12_oddsFrom : GoodIn wsX12_oddsFrom (wsV RX12 421 RX12 yX12_oddsFrom wsX12_oddsFrom) := goodIn_app (goodIn_r _ [62, 63, 64, 6] rfl rfl) ggX12_oddsFrom_X12_oddsFrom
theorem dX12_oddsFrom_0 : decode cX12_oddsFrom 0 = .ok (.iload 5, 2) := by decide +kernel
theorem dX12_oddsFrom_2 : decode cX12_oddsFrom 2 = .ok (.ifCond .ne 5, 3) := by decide +kernel
theorem dX12_oddsFrom_5 : decode cX12_oddsFrom 5 = .ok (.iconst 0, 1) := by decide +kernel
theorem dX12_oddsFrom_6 : decode cX12_oddsFrom 6 = .ok (.ireturn, 1) := by decide +kernel
theorem dX12_oddsFrom_7 : decode cX12_oddsFrom 7 = .ok (.iload 8, 2) := by decide +kernel
theorem dX12_oddsFrom_9 : decode cX12_oddsFrom 9 = .ok (.i2l, 1) := by decide +kernel
theorem dX12_oddsFrom_10 : decode cX12_oddsFrom 10 = .ok (.iload 7, 2) := by decide +kernel
theorem dX12_oddsFrom_12 : decode cX12_oddsFrom 12 = .ok (.i2l, 1) := by decide +kernel
theorem dX12_oddsFrom_13 : decode cX12_oddsFrom 13 = .ok (.lmul, 1) := by decide +kernel
theorem dX12_oddsFrom_14 : decode cX12_oddsFrom 14 = .ok (.ldc2_w 419, 3) := by decide +kernel
theorem dX12_oddsFrom_17 : decode cX12_oddsFrom 17 = .ok (.ldiv, 1) := by decide +kernel
theorem dX12_oddsFrom_18 : decode cX12_oddsFrom 18 = .ok (.l2i, 1) := by decide +kernel
theorem dX12_oddsFrom_19 : decode cX12_oddsFrom 19 = .ok (.istore 9, 2) := by decide +kernel
theorem dX12_oddsFrom_21 : decode cX12_oddsFrom 21 = .ok (.iconst 0, 1) := by decide +kernel
theorem dX12_oddsFrom_22 : decode cX12_oddsFrom 22 = .ok (.istore 10, 2) := by decide +kernel
theorem dX12_oddsFrom_24 : decode cX12_oddsFrom 24 = .ok (.iconst 0, 1) := by decide +kernel
theorem dX12_oddsFrom_25 : decode cX12_oddsFrom 25 = .ok (.istore 11, 2) := by decide +kernel
theorem dX12_oddsFrom_27 : decode cX12_oddsFrom 27 = .ok (.iload 11, 2) := by decide +kernel
theorem dX12_oddsFrom_29 : decode cX12_oddsFrom 29 = .ok (.iconst 2, 1) := by decide +kernel
theorem dX12_oddsFrom_30 : decode cX12_oddsFrom 30 = .ok (.if_icmp .ge 103, 3) := by decide +kernel
theorem dX12_oddsFrom_33 : decode cX12_oddsFrom 33 = .ok (.iload 11, 2) := by decide +kernel
theorem dX12_oddsFrom_35 : decode cX12_oddsFrom 35 = .ok (.iconst 1, 1) := by decide +kernel
theorem dX12_oddsFrom_36 : decode cX12_oddsFrom 36 = .ok (.if_icmp .ne 10, 3) := by decide +kernel
theorem dX12_oddsFrom_39 : decode cX12_oddsFrom 39 = .ok (.iload 6, 2) := by decide +kernel
theorem dX12_oddsFrom_41 : decode cX12_oddsFrom 41 = .ok (.iconst 2, 1) := by decide +kernel
theorem dX12_oddsFrom_42 : decode cX12_oddsFrom 42 = .ok (.idiv, 1) := by decide +kernel
theorem dX12_oddsFrom_43 : decode cX12_oddsFrom 43 = .ok (.goto 27, 3) := by decide +kernel
theorem dX12_oddsFrom_46 : decode cX12_oddsFrom 46 = .ok (.iload 6, 2) := by decide +kernel
theorem dX12_oddsFrom_48 : decode cX12_oddsFrom 48 = .ok (.aload_n 0, 1) := by decide +kernel
theorem dX12_oddsFrom_49 : decode cX12_oddsFrom 49 = .ok (.iload_n 1, 1) := by decide +kernel
theorem dX12_oddsFrom_50 : decode cX12_oddsFrom 50 = .ok (.iload_n 2, 1) := by decide +kernel
theorem dX12_oddsFrom_51 : decode cX12_oddsFrom 51 = .ok (.iload 6, 2) := by decide +kernel
theorem dX12_oddsFrom_53 : decode cX12_oddsFrom 53 = .ok (.aload_n 0, 1) := by decide +kernel
theorem dX12_oddsFrom_54 : decode cX12_oddsFrom 54 = .ok (.getfield 58, 3) := by decide +kernel
theorem dX12_oddsFrom_57 : decode cX12_oddsFrom 57 = .ok (.bipush 68, 2) := by decide +kernel
theorem dX12_oddsFrom_59 : decode cX12_oddsFrom 59 = .ok (.iaload, 1) := by decide +kernel
theorem dX12_oddsFrom_60 : decode cX12_oddsFrom 60 = .ok (.iload 4, 2) := by decide +kernel
theorem dX12_oddsFrom_62 : decode cX12_oddsFrom 62 = .ok (.iadd, 1) := by decide +kernel
theorem dX12_oddsFrom_63 : decode cX12_oddsFrom 63 = .ok (.invokevirtual 297, 3) := by decide +kernel
theorem dX12_oddsFrom_66 : decode cX12_oddsFrom 66 = .ok (.iadd, 1) := by decide +kernel
theorem dX12_oddsFrom_67 : decode cX12_oddsFrom 67 = .ok (.invokestatic 307, 3) := by decide +kernel
theorem dX12_oddsFrom_70 : decode cX12_oddsFrom 70 = .ok (.istore 12, 2) := by decide +kernel
theorem dX12_oddsFrom_72 : decode cX12_oddsFrom 72 = .ok (.iload 11, 2) := by decide +kernel
theorem dX12_oddsFrom_74 : decode cX12_oddsFrom 74 = .ok (.iconst 1, 1) := by decide +kernel
theorem dX12_oddsFrom_75 : decode cX12_oddsFrom 75 = .ok (.if_icmp .ne 8, 3) := by decide +kernel
theorem dX12_oddsFrom_78 : decode cX12_oddsFrom 78 = .ok (.iload 9, 2) := by decide +kernel
theorem dX12_oddsFrom_80 : decode cX12_oddsFrom 80 = .ok (.goto 8, 3) := by decide +kernel
theorem dX12_oddsFrom_83 : decode cX12_oddsFrom 83 = .ok (.iload 8, 2) := by decide +kernel
theorem dX12_oddsFrom_85 : decode cX12_oddsFrom 85 = .ok (.iload 9, 2) := by decide +kernel
theorem dX12_oddsFrom_87 : decode cX12_oddsFrom 87 = .ok (.isub, 1) := by decide +kernel
theorem dX12_oddsFrom_88 : decode cX12_oddsFrom 88 = .ok (.istore 13, 2) := by decide +kernel
theorem dX12_oddsFrom_90 : decode cX12_oddsFrom 90 = .ok (.iload 10, 2) := by decide +kernel
theorem dX12_oddsFrom_92 : decode cX12_oddsFrom 92 = .ok (.iload 12, 2) := by decide +kernel
theorem dX12_oddsFrom_94 : decode cX12_oddsFrom 94 = .ok (.iload_n 3, 1) := by decide +kernel
theorem dX12_oddsFrom_95 : decode cX12_oddsFrom 95 = .ok (.if_icmp .lt 8, 3) := by decide +kernel
theorem dX12_oddsFrom_98 : decode cX12_oddsFrom 98 = .ok (.iload 13, 2) := by decide +kernel
theorem dX12_oddsFrom_100 : decode cX12_oddsFrom 100 = .ok (.goto 24, 3) := by decide +kernel
theorem dX12_oddsFrom_103 : decode cX12_oddsFrom 103 = .ok (.aload_n 0, 1) := by decide +kernel
theorem dX12_oddsFrom_104 : decode cX12_oddsFrom 104 = .ok (.iload_n 1, 1) := by decide +kernel
theorem dX12_oddsFrom_105 : decode cX12_oddsFrom 105 = .ok (.iload_n 2, 1) := by decide +kernel
theorem dX12_oddsFrom_106 : decode cX12_oddsFrom 106 = .ok (.iload_n 3, 1) := by decide +kernel
theorem dX12_oddsFrom_107 : decode cX12_oddsFrom 107 = .ok (.iload 4, 2) := by decide +kernel
theorem dX12_oddsFrom_109 : decode cX12_oddsFrom 109 = .ok (.iconst 1, 1) := by decide +kernel
theorem dX12_oddsFrom_110 : decode cX12_oddsFrom 110 = .ok (.iadd, 1) := by decide +kernel
theorem dX12_oddsFrom_111 : decode cX12_oddsFrom 111 = .ok (.iload 5, 2) := by decide +kernel
theorem dX12_oddsFrom_113 : decode cX12_oddsFrom 113 = .ok (.iconst 1, 1) := by decide +kernel
theorem dX12_oddsFrom_114 : decode cX12_oddsFrom 114 = .ok (.isub, 1) := by decide +kernel
theorem dX12_oddsFrom_115 : decode cX12_oddsFrom 115 = .ok (.iload 12, 2) := by decide +kernel
theorem dX12_oddsFrom_117 : decode cX12_oddsFrom 117 = .ok (.iload 7, 2) := by decide +kernel
theorem dX12_oddsFrom_119 : decode cX12_oddsFrom 119 = .ok (.iload 13, 2) := by decide +kernel
theorem dX12_oddsFrom_121 : decode cX12_oddsFrom 121 = .ok (.invokevirtual 421, 3) := by decide +kernel
theorem dX12_oddsFrom_124 : decode cX12_oddsFrom 124 = .ok (.iadd, 1) := by decide +kernel
theorem dX12_oddsFrom_125 : decode cX12_oddsFrom 125 = .ok (.istore 10, 2) := by decide +kernel
theorem dX12_oddsFrom_127 : decode cX12_oddsFrom 127 = .ok (.iinc 11 1, 3) := by decide +kernel
theorem dX12_oddsFrom_130 : decode cX12_oddsFrom 130 = .ok (.goto (-103), 3) := by decide +kernel
theorem dX12_oddsFrom_133 : decode cX12_oddsFrom 133 = .ok (.iload 10, 2) := by decide +kernel
theorem dX12_oddsFrom_135 : decode cX12_oddsFrom 135 = .ok (.ireturn, 1) := by decide +kernel
set_option maxRecDepth 20000 in
theorem ggX12_odds_X12_isMatter : GoodIn wsX12_odds wsX12_isMatter := goodIn_r _ [8, 9, 10, 11, 7, 12, 88, 89, 90, 91, 92, 93, 94, 95, 96, 97, 98, 99, 100, 101, 102, 103, 104, 105, 106, 107, 108, 109, 110, 111, 112, 113, 114, 115, 116, 117, 118, 119, 120, 121, 122, 123, 124, 125, 126, 127, 128, 129, 130, 131, 132, 133] rfl rfl
set_option maxRecDepth 20000 in
theorem gX12_odds_X12_isMatter : GoodIn wsX12_odds (wsV RX12 331 RX12 yX12_isMatter wsX12_isMatter) := goodIn_app (goodIn_r _ [4, 5, 6, 7] rfl rfl) ggX12_odds_X12_isMatter
set_option maxRecDepth 20000 in
theorem ggX12_odds_X12_areTwo : GoodIn wsX12_odds wsX12_areTwo := goodIn_r _ [16, 17, 18, 19, 7, 20, 21, 10, 11, 12, 22, 23, 24, 25, 26, 88, 89, 90, 91, 92, 93, 94, 95, 96, 97, 98, 99, 100, 101, 102, 103, 104, 105, 106, 107, 108, 109, 110, 111, 112, 113, 114, 115, 116, 117, 118, 119, 120, 121, 122, 123, 124, 125, 126, 127, 128, 129, 130, 131, 132, 133] rfl rfl
set_option maxRecDepth 20000 in
theorem gX12_odds_X12_areTwo : GoodIn wsX12_odds (wsV RX12 316 RX12 yX12_areTwo wsX12_areTwo) := goodIn_app (goodIn_r _ [13, 14, 15, 7] rfl rfl) ggX12_odds_X12_areTwo
set_option maxRecDepth 20000 in
theorem ggX12_odds_X12_in : GoodIn wsX12_odds wsX12_in := goodIn_r _ [12] rfl rfl
set_option maxRecDepth 20000 in
theorem gX12_odds_X12_in : GoodIn wsX12_odds (va_wsS RX12 211 yX12_in wsX12_in) := goodIn_app (goodIn_r _ [10, 11, 7] rfl rfl) ggX12_odds_X12_in
set_option maxRecDepth 20000 in
theorem ggX12_odds_X12_pairAt : GoodIn wsX12_odds wsX12_pairAt := goodIn_r _ [29, 30, 31, 32, 33, 34, 35, 36] rfl rfl
set_option maxRecDepth 20000 in
theorem gX12_odds_X12_pairAt : GoodIn wsX12_odds (va_wsS RX12 294 yX12_pairAt wsX12_pairAt) := goodIn_app (goodIn_r _ [27, 28, 7] rfl rfl) ggX12_odds_X12_pairAt
set_option maxRecDepth 20000 in
theorem ggX12_odds_X12_oddsFrom : GoodIn wsX12_odds wsX12_oddsFrom := goodIn_r _ [40, 41, 2, 42, 43, 44, 7, 45, 46, 47, 48, 49, 22, 23, 24, 25, 26, 50, 51, 52, 53, 54, 55, 30, 31, 32, 33, 34, 35, 36, 56, 57, 58, 59, 60, 61, 62, 63, 64, 65, 66, 67, 68, 69, 70, 71, 72, 73, 74, 75, 76, 77, 78, 79, 80, 81, 82, 83, 84, 85, 86, 87, 37, 38, 39, 88, 89, 90, 91, 92, 93, 94, 95, 96, 97, 98, 99, 100, 101, 102, 103, 104, 105, 106, 107, 108, 109, 110, 111, 112, 113, 114, 115, 116, 117, 118, 119, 120, 121, 122, 123, 124, 125, 126, 127, 128, 129, 130, 131, 132, 133] rfl rfl
set_option maxRecDepth 20000 in
theorem gX12_odds_X12_oddsFrom : GoodIn wsX12_odds (wsV RX12 421 RX12 yX12_oddsFrom wsX12_oddsFrom) := goodIn_app (goodIn_r _ [37, 38, 39, 7] rfl rfl) ggX12_odds_X12_oddsFrom
theorem dX12_odds_0 : decode cX12_odds 0 = .ok (.aload_n 0, 1) := by decide +kernel
theorem dX12_odds_1 : decode cX12_odds 1 = .ok (.iload_n 1, 1) := by decide +kernel
theorem dX12_odds_2 : decode cX12_odds 2 = .ok (.invokevirtual 331, 3) := by decide +kernel
theorem dX12_odds_5 : decode cX12_odds 5 = .ok (.ifCond .eq 34, 3) := by decide +kernel
theorem dX12_odds_8 : decode cX12_odds 8 = .ok (.aload_n 0, 1) := by decide +kernel
theorem dX12_odds_9 : decode cX12_odds 9 = .ok (.iload_n 2, 1) := by decide +kernel
theorem dX12_odds_10 : decode cX12_odds 10 = .ok (.iload_n 3, 1) := by decide +kernel
theorem dX12_odds_11 : decode cX12_odds 11 = .ok (.invokevirtual 316, 3) := by decide +kernel
theorem dX12_odds_14 : decode cX12_odds 14 = .ok (.ifCond .eq 25, 3) := by decide +kernel
theorem dX12_odds_17 : decode cX12_odds 17 = .ok (.iload 4, 2) := by decide +kernel
theorem dX12_odds_19 : decode cX12_odds 19 = .ok (.iconst 0, 1) := by decide +kernel
theorem dX12_odds_20 : decode cX12_odds 20 = .ok (.bipush 8, 2) := by decide +kernel
theorem dX12_odds_22 : decode cX12_odds 22 = .ok (.invokestatic 211, 3) := by decide +kernel
theorem dX12_odds_25 : decode cX12_odds 25 = .ok (.ifCond .eq 14, 3) := by decide +kernel
theorem dX12_odds_28 : decode cX12_odds 28 = .ok (.iload 5, 2) := by decide +kernel
theorem dX12_odds_30 : decode cX12_odds 30 = .ok (.iconst 0, 1) := by decide +kernel
theorem dX12_odds_31 : decode cX12_odds 31 = .ok (.bipush 100, 2) := by decide +kernel
theorem dX12_odds_33 : decode cX12_odds 33 = .ok (.invokestatic 211, 3) := by decide +kernel
theorem dX12_odds_36 : decode cX12_odds 36 = .ok (.ifCond .ne 5, 3) := by decide +kernel
theorem dX12_odds_39 : decode cX12_odds 39 = .ok (.iconst (-1), 1) := by decide +kernel
theorem dX12_odds_40 : decode cX12_odds 40 = .ok (.ireturn, 1) := by decide +kernel
theorem dX12_odds_41 : decode cX12_odds 41 = .ok (.aload_n 0, 1) := by decide +kernel
theorem dX12_odds_42 : decode cX12_odds 42 = .ok (.iload_n 2, 1) := by decide +kernel
theorem dX12_odds_43 : decode cX12_odds 43 = .ok (.iload_n 3, 1) := by decide +kernel
theorem dX12_odds_44 : decode cX12_odds 44 = .ok (.aload_n 0, 1) := by decide +kernel
theorem dX12_odds_45 : decode cX12_odds 45 = .ok (.getfield 55, 3) := by decide +kernel
theorem dX12_odds_48 : decode cX12_odds 48 = .ok (.iconst 2, 1) := by decide +kernel
theorem dX12_odds_49 : decode cX12_odds 49 = .ok (.iload_n 1, 1) := by decide +kernel
theorem dX12_odds_50 : decode cX12_odds 50 = .ok (.imul, 1) := by decide +kernel
theorem dX12_odds_51 : decode cX12_odds 51 = .ok (.iconst 1, 1) := by decide +kernel
theorem dX12_odds_52 : decode cX12_odds 52 = .ok (.iadd, 1) := by decide +kernel
theorem dX12_odds_53 : decode cX12_odds 53 = .ok (.iaload, 1) := by decide +kernel
theorem dX12_odds_54 : decode cX12_odds 54 = .ok (.iconst 0, 1) := by decide +kernel
theorem dX12_odds_55 : decode cX12_odds 55 = .ok (.iload 4, 2) := by decide +kernel
theorem dX12_odds_57 : decode cX12_odds 57 = .ok (.aload_n 0, 1) := by decide +kernel
theorem dX12_odds_58 : decode cX12_odds 58 = .ok (.getfield 58, 3) := by decide +kernel
theorem dX12_odds_61 : decode cX12_odds 61 = .ok (.iload_n 2, 1) := by decide +kernel
theorem dX12_odds_62 : decode cX12_odds 62 = .ok (.iload_n 3, 1) := by decide +kernel
theorem dX12_odds_63 : decode cX12_odds 63 = .ok (.invokestatic 294, 3) := by decide +kernel
theorem dX12_odds_66 : decode cX12_odds 66 = .ok (.iaload, 1) := by decide +kernel
theorem dX12_odds_67 : decode cX12_odds 67 = .ok (.iload 5, 2) := by decide +kernel
theorem dX12_odds_69 : decode cX12_odds 69 = .ok (.ldc_w 425, 3) := by decide +kernel
theorem dX12_odds_72 : decode cX12_odds 72 = .ok (.invokevirtual 421, 3) := by decide +kernel
theorem dX12_odds_75 : decode cX12_odds 75 = .ok (.ireturn, 1) := by decide +kernel
set_option maxRecDepth 20000 in
theorem ggX12_shares_X12_in : GoodIn wsX12_shares wsX12_in := goodIn_r _ [6] rfl rfl
set_option maxRecDepth 20000 in
theorem gX12_shares_X12_in : GoodIn wsX12_shares (va_wsS RX12 211 yX12_in wsX12_in) := goodIn_app (goodIn_r _ [3, 4, 5] rfl rfl) ggX12_shares_X12_in
set_option maxRecDepth 20000 in
theorem ggX12_shares_X12_of : GoodIn wsX12_shares wsX12_of := goodIn_r _ [10, 11, 12, 13, 14, 15, 16, 17, 18, 19, 20, 21, 22, 23, 24, 25, 26, 27, 28, 29, 30, 31, 32, 33, 34, 35, 36, 37, 38, 39, 40, 41, 42, 43, 44, 45, 46, 47, 48, 49, 50, 51, 52, 53, 54, 55, 56, 57] rfl rfl
set_option maxRecDepth 20000 in
theorem gX12_shares_X12_of : GoodIn wsX12_shares (wsV RX12 258 RX12 yX12_of wsX12_of) := goodIn_app (goodIn_r _ [7, 8, 9, 5] rfl rfl) ggX12_shares_X12_of
theorem dX12_shares_0 : decode cX12_shares 0 = .ok (.aload_n 0, 1) := by decide +kernel
theorem dX12_shares_1 : decode cX12_shares 1 = .ok (.getfield 252, 3) := by decide +kernel
theorem dX12_shares_4 : decode cX12_shares 4 = .ok (.ifCond .eq 23, 3) := by decide +kernel
theorem dX12_shares_7 : decode cX12_shares 7 = .ok (.iload_n 1, 1) := by decide +kernel
theorem dX12_shares_8 : decode cX12_shares 8 = .ok (.iconst 0, 1) := by decide +kernel
theorem dX12_shares_9 : decode cX12_shares 9 = .ok (.iconst 1, 1) := by decide +kernel
theorem dX12_shares_10 : decode cX12_shares 10 = .ok (.invokestatic 211, 3) := by decide +kernel
theorem dX12_shares_13 : decode cX12_shares 13 = .ok (.ifCond .eq 14, 3) := by decide +kernel
theorem dX12_shares_16 : decode cX12_shares 16 = .ok (.iload_n 2, 1) := by decide +kernel
theorem dX12_shares_17 : decode cX12_shares 17 = .ok (.iconst 0, 1) := by decide +kernel
theorem dX12_shares_18 : decode cX12_shares 18 = .ok (.sipush 999, 3) := by decide +kernel
theorem dX12_shares_21 : decode cX12_shares 21 = .ok (.invokestatic 211, 3) := by decide +kernel
theorem dX12_shares_24 : decode cX12_shares 24 = .ok (.ifCond .ne 5, 3) := by decide +kernel
theorem dX12_shares_27 : decode cX12_shares 27 = .ok (.iconst (-1), 1) := by decide +kernel
theorem dX12_shares_28 : decode cX12_shares 28 = .ok (.ireturn, 1) := by decide +kernel
theorem dX12_shares_29 : decode cX12_shares 29 = .ok (.iconst 0, 1) := by decide +kernel
theorem dX12_shares_30 : decode cX12_shares 30 = .ok (.istore_n 3, 1) := by decide +kernel
theorem dX12_shares_31 : decode cX12_shares 31 = .ok (.iconst 0, 1) := by decide +kernel
theorem dX12_shares_32 : decode cX12_shares 32 = .ok (.istore 4, 2) := by decide +kernel
theorem dX12_shares_34 : decode cX12_shares 34 = .ok (.iconst 0, 1) := by decide +kernel
theorem dX12_shares_35 : decode cX12_shares 35 = .ok (.istore 5, 2) := by decide +kernel
theorem dX12_shares_37 : decode cX12_shares 37 = .ok (.iload 5, 2) := by decide +kernel
theorem dX12_shares_39 : decode cX12_shares 39 = .ok (.aload_n 0, 1) := by decide +kernel
theorem dX12_shares_40 : decode cX12_shares 40 = .ok (.getfield 252, 3) := by decide +kernel
theorem dX12_shares_43 : decode cX12_shares 43 = .ok (.if_icmp .ge 52, 3) := by decide +kernel
theorem dX12_shares_46 : decode cX12_shares 46 = .ok (.iload_n 3, 1) := by decide +kernel
theorem dX12_shares_47 : decode cX12_shares 47 = .ok (.aload_n 0, 1) := by decide +kernel
theorem dX12_shares_48 : decode cX12_shares 48 = .ok (.getfield 58, 3) := by decide +kernel
theorem dX12_shares_51 : decode cX12_shares 51 = .ok (.bipush 36, 2) := by decide +kernel
theorem dX12_shares_53 : decode cX12_shares 53 = .ok (.iload 5, 2) := by decide +kernel
theorem dX12_shares_55 : decode cX12_shares 55 = .ok (.iadd, 1) := by decide +kernel
theorem dX12_shares_56 : decode cX12_shares 56 = .ok (.iaload, 1) := by decide +kernel
theorem dX12_shares_57 : decode cX12_shares 57 = .ok (.iadd, 1) := by decide +kernel
theorem dX12_shares_58 : decode cX12_shares 58 = .ok (.istore_n 3, 1) := by decide +kernel
theorem dX12_shares_59 : decode cX12_shares 59 = .ok (.iload 4, 2) := by decide +kernel
theorem dX12_shares_61 : decode cX12_shares 61 = .ok (.aload_n 0, 1) := by decide +kernel
theorem dX12_shares_62 : decode cX12_shares 62 = .ok (.iload 5, 2) := by decide +kernel
theorem dX12_shares_64 : decode cX12_shares 64 = .ok (.iconst 0, 1) := by decide +kernel
theorem dX12_shares_65 : decode cX12_shares 65 = .ok (.invokevirtual 258, 3) := by decide +kernel
theorem dX12_shares_68 : decode cX12_shares 68 = .ok (.iload_n 1, 1) := by decide +kernel
theorem dX12_shares_69 : decode cX12_shares 69 = .ok (.if_icmp .ne 16, 3) := by decide +kernel
theorem dX12_shares_72 : decode cX12_shares 72 = .ok (.aload_n 0, 1) := by decide +kernel
theorem dX12_shares_73 : decode cX12_shares 73 = .ok (.getfield 58, 3) := by decide +kernel
theorem dX12_shares_76 : decode cX12_shares 76 = .ok (.bipush 36, 2) := by decide +kernel
theorem dX12_shares_78 : decode cX12_shares 78 = .ok (.iload 5, 2) := by decide +kernel
theorem dX12_shares_80 : decode cX12_shares 80 = .ok (.iadd, 1) := by decide +kernel
theorem dX12_shares_81 : decode cX12_shares 81 = .ok (.iaload, 1) := by decide +kernel
theorem dX12_shares_82 : decode cX12_shares 82 = .ok (.goto 4, 3) := by decide +kernel
theorem dX12_shares_85 : decode cX12_shares 85 = .ok (.iconst 0, 1) := by decide +kernel
theorem dX12_shares_86 : decode cX12_shares 86 = .ok (.iadd, 1) := by decide +kernel
theorem dX12_shares_87 : decode cX12_shares 87 = .ok (.istore 4, 2) := by decide +kernel
theorem dX12_shares_89 : decode cX12_shares 89 = .ok (.iinc 5 1, 3) := by decide +kernel
theorem dX12_shares_92 : decode cX12_shares 92 = .ok (.goto (-55), 3) := by decide +kernel
theorem dX12_shares_95 : decode cX12_shares 95 = .ok (.iload_n 3, 1) := by decide +kernel
theorem dX12_shares_96 : decode cX12_shares 96 = .ok (.ifCond .ne 7, 3) := by decide +kernel
theorem dX12_shares_99 : decode cX12_shares 99 = .ok (.iconst 0, 1) := by decide +kernel
theorem dX12_shares_100 : decode cX12_shares 100 = .ok (.goto 9, 3) := by decide +kernel
theorem dX12_shares_103 : decode cX12_shares 103 = .ok (.iload_n 2, 1) := by decide +kernel
theorem dX12_shares_104 : decode cX12_shares 104 = .ok (.iload 4, 2) := by decide +kernel
theorem dX12_shares_106 : decode cX12_shares 106 = .ok (.imul, 1) := by decide +kernel
theorem dX12_shares_107 : decode cX12_shares 107 = .ok (.iload_n 3, 1) := by decide +kernel
theorem dX12_shares_108 : decode cX12_shares 108 = .ok (.idiv, 1) := by decide +kernel
theorem dX12_shares_109 : decode cX12_shares 109 = .ok (.ireturn, 1) := by decide +kernel
set_option maxRecDepth 20000 in
theorem ggX12_metSet_X12_isFree : GoodIn wsX12_metSet wsX12_isFree := goodIn_r _ [6, 7, 8, 9, 10, 11, 12, 13, 14, 15, 16, 17, 18, 19, 20, 21, 22, 23, 24, 25, 26, 27, 28, 29, 30, 31, 32, 33, 34, 35, 36, 37, 38, 39, 40, 41, 42, 43, 44, 45, 46, 47, 48, 49, 50, 51, 52, 53] rfl rfl
set_option maxRecDepth 20000 in
theorem gX12_metSet_X12_isFree : GoodIn wsX12_metSet (wsV RX12 313 RX12 yX12_isFree wsX12_isFree) := goodIn_app (goodIn_r _ [2, 3, 4, 5] rfl rfl) ggX12_metSet_X12_isFree
theorem dX12_metSet_0 : decode cX12_metSet 0 = .ok (.iconst 0, 1) := by decide +kernel
theorem dX12_metSet_1 : decode cX12_metSet 1 = .ok (.istore_n 1, 1) := by decide +kernel
theorem dX12_metSet_2 : decode cX12_metSet 2 = .ok (.iconst 0, 1) := by decide +kernel
theorem dX12_metSet_3 : decode cX12_metSet 3 = .ok (.istore_n 2, 1) := by decide +kernel
theorem dX12_metSet_4 : decode cX12_metSet 4 = .ok (.iload_n 2, 1) := by decide +kernel
theorem dX12_metSet_5 : decode cX12_metSet 5 = .ok (.aload_n 0, 1) := by decide +kernel
theorem dX12_metSet_6 : decode cX12_metSet 6 = .ok (.getfield 252, 3) := by decide +kernel
theorem dX12_metSet_9 : decode cX12_metSet 9 = .ok (.if_icmp .ge 27, 3) := by decide +kernel
theorem dX12_metSet_12 : decode cX12_metSet 12 = .ok (.iload_n 1, 1) := by decide +kernel
theorem dX12_metSet_13 : decode cX12_metSet 13 = .ok (.aload_n 0, 1) := by decide +kernel
theorem dX12_metSet_14 : decode cX12_metSet 14 = .ok (.iload_n 2, 1) := by decide +kernel
theorem dX12_metSet_15 : decode cX12_metSet 15 = .ok (.invokevirtual 313, 3) := by decide +kernel
theorem dX12_metSet_18 : decode cX12_metSet 18 = .ok (.ifCond .eq 7, 3) := by decide +kernel
theorem dX12_metSet_21 : decode cX12_metSet 21 = .ok (.iconst 0, 1) := by decide +kernel
theorem dX12_metSet_22 : decode cX12_metSet 22 = .ok (.goto 6, 3) := by decide +kernel
theorem dX12_metSet_25 : decode cX12_metSet 25 = .ok (.iconst 1, 1) := by decide +kernel
theorem dX12_metSet_26 : decode cX12_metSet 26 = .ok (.iload_n 2, 1) := by decide +kernel
theorem dX12_metSet_27 : decode cX12_metSet 27 = .ok (.ishl, 1) := by decide +kernel
theorem dX12_metSet_28 : decode cX12_metSet 28 = .ok (.ior, 1) := by decide +kernel
theorem dX12_metSet_29 : decode cX12_metSet 29 = .ok (.istore_n 1, 1) := by decide +kernel
theorem dX12_metSet_30 : decode cX12_metSet 30 = .ok (.iinc 2 1, 3) := by decide +kernel
theorem dX12_metSet_33 : decode cX12_metSet 33 = .ok (.goto (-29), 3) := by decide +kernel
theorem dX12_metSet_36 : decode cX12_metSet 36 = .ok (.iload_n 1, 1) := by decide +kernel
theorem dX12_metSet_37 : decode cX12_metSet 37 = .ok (.ireturn, 1) := by decide +kernel
theorem dX12_signedSet_0 : decode cX12_signedSet 0 = .ok (.iconst 0, 1) := by decide +kernel
theorem dX12_signedSet_1 : decode cX12_signedSet 1 = .ok (.istore_n 1, 1) := by decide +kernel
theorem dX12_signedSet_2 : decode cX12_signedSet 2 = .ok (.iconst 0, 1) := by decide +kernel
theorem dX12_signedSet_3 : decode cX12_signedSet 3 = .ok (.istore_n 2, 1) := by decide +kernel
theorem dX12_signedSet_4 : decode cX12_signedSet 4 = .ok (.iload_n 2, 1) := by decide +kernel
theorem dX12_signedSet_5 : decode cX12_signedSet 5 = .ok (.aload_n 0, 1) := by decide +kernel
theorem dX12_signedSet_6 : decode cX12_signedSet 6 = .ok (.getfield 255, 3) := by decide +kernel
theorem dX12_signedSet_9 : decode cX12_signedSet 9 = .ok (.if_icmp .ge 32, 3) := by decide +kernel
theorem dX12_signedSet_12 : decode cX12_signedSet 12 = .ok (.iload_n 1, 1) := by decide +kernel
theorem dX12_signedSet_13 : decode cX12_signedSet 13 = .ok (.aload_n 0, 1) := by decide +kernel
theorem dX12_signedSet_14 : decode cX12_signedSet 14 = .ok (.getfield 58, 3) := by decide +kernel
theorem dX12_signedSet_17 : decode cX12_signedSet 17 = .ok (.bipush 60, 2) := by decide +kernel
theorem dX12_signedSet_19 : decode cX12_signedSet 19 = .ok (.iload_n 2, 1) := by decide +kernel
theorem dX12_signedSet_20 : decode cX12_signedSet 20 = .ok (.iadd, 1) := by decide +kernel
theorem dX12_signedSet_21 : decode cX12_signedSet 21 = .ok (.iaload, 1) := by decide +kernel
theorem dX12_signedSet_22 : decode cX12_signedSet 22 = .ok (.iconst (-1), 1) := by decide +kernel
theorem dX12_signedSet_23 : decode cX12_signedSet 23 = .ok (.if_icmp .ne 7, 3) := by decide +kernel
theorem dX12_signedSet_26 : decode cX12_signedSet 26 = .ok (.iconst 0, 1) := by decide +kernel
theorem dX12_signedSet_27 : decode cX12_signedSet 27 = .ok (.goto 6, 3) := by decide +kernel
theorem dX12_signedSet_30 : decode cX12_signedSet 30 = .ok (.iconst 1, 1) := by decide +kernel
theorem dX12_signedSet_31 : decode cX12_signedSet 31 = .ok (.iload_n 2, 1) := by decide +kernel
theorem dX12_signedSet_32 : decode cX12_signedSet 32 = .ok (.ishl, 1) := by decide +kernel
theorem dX12_signedSet_33 : decode cX12_signedSet 33 = .ok (.ior, 1) := by decide +kernel
theorem dX12_signedSet_34 : decode cX12_signedSet 34 = .ok (.istore_n 1, 1) := by decide +kernel
theorem dX12_signedSet_35 : decode cX12_signedSet 35 = .ok (.iinc 2 1, 3) := by decide +kernel
theorem dX12_signedSet_38 : decode cX12_signedSet 38 = .ok (.goto (-34), 3) := by decide +kernel
theorem dX12_signedSet_41 : decode cX12_signedSet 41 = .ok (.iload_n 1, 1) := by decide +kernel
theorem dX12_signedSet_42 : decode cX12_signedSet 42 = .ok (.ireturn, 1) := by decide +kernel
set_option maxRecDepth 20000 in
theorem ggX12_topPair_X12_areTwo : GoodIn wsX12_topPair wsX12_areTwo := goodIn_r _ [7, 8, 9, 10, 6, 11, 1, 12, 13, 14, 15, 16, 17, 18, 19, 33, 34, 35, 36, 37, 38, 39, 40, 41, 42, 43, 44, 45, 46, 47, 48, 49, 50, 51, 52, 53, 54, 55, 56, 57, 58, 59, 60, 61, 62, 63, 64, 65, 66, 67, 68, 69, 70, 71, 72, 73, 74, 75, 76, 77, 78] rfl rfl
set_option maxRecDepth 20000 in
theorem gX12_topPair_X12_areTwo : GoodIn wsX12_topPair (wsV RX12 316 RX12 yX12_areTwo wsX12_areTwo) := goodIn_app (goodIn_r _ [3, 4, 5, 6] rfl rfl) ggX12_topPair_X12_areTwo
set_option maxRecDepth 20000 in
theorem ggX12_topPair_X12_pairAt : GoodIn wsX12_topPair wsX12_pairAt := goodIn_r _ [22, 23, 24, 25, 26, 27, 28, 29] rfl rfl
set_option maxRecDepth 20000 in
theorem gX12_topPair_X12_pairAt : GoodIn wsX12_topPair (va_wsS RX12 294 yX12_pairAt wsX12_pairAt) := goodIn_app (goodIn_r _ [20, 21, 6] rfl rfl) ggX12_topPair_X12_pairAt
set_option maxRecDepth 20000 in
theorem ggX12_topPair_X12_codeOf : GoodIn wsX12_topPair wsX12_codeOf := goodIn_r _ [32, 23, 24, 25, 26, 27, 28, 29] rfl rfl
set_option maxRecDepth 20000 in
theorem gX12_topPair_X12_codeOf : GoodIn wsX12_topPair (va_wsS RX12 301 yX12_codeOf wsX12_codeOf) := goodIn_app (goodIn_r _ [30, 31, 6] rfl rfl) ggX12_topPair_X12_codeOf
theorem dX12_topPair_0 : decode cX12_topPair 0 = .ok (.iconst (-1), 1) := by decide +kernel
theorem dX12_topPair_1 : decode cX12_topPair 1 = .ok (.istore_n 2, 1) := by decide +kernel
theorem dX12_topPair_2 : decode cX12_topPair 2 = .ok (.iconst 0, 1) := by decide +kernel
theorem dX12_topPair_3 : decode cX12_topPair 3 = .ok (.istore_n 3, 1) := by decide +kernel
theorem dX12_topPair_4 : decode cX12_topPair 4 = .ok (.iconst 0, 1) := by decide +kernel
theorem dX12_topPair_5 : decode cX12_topPair 5 = .ok (.istore 4, 2) := by decide +kernel
theorem dX12_topPair_7 : decode cX12_topPair 7 = .ok (.iload 4, 2) := by decide +kernel
theorem dX12_topPair_9 : decode cX12_topPair 9 = .ok (.aload_n 0, 1) := by decide +kernel
theorem dX12_topPair_10 : decode cX12_topPair 10 = .ok (.getfield 252, 3) := by decide +kernel
theorem dX12_topPair_13 : decode cX12_topPair 13 = .ok (.if_icmp .ge 87, 3) := by decide +kernel
theorem dX12_topPair_16 : decode cX12_topPair 16 = .ok (.iload 4, 2) := by decide +kernel
theorem dX12_topPair_18 : decode cX12_topPair 18 = .ok (.iconst 1, 1) := by decide +kernel
theorem dX12_topPair_19 : decode cX12_topPair 19 = .ok (.iadd, 1) := by decide +kernel
theorem dX12_topPair_20 : decode cX12_topPair 20 = .ok (.istore 5, 2) := by decide +kernel
theorem dX12_topPair_22 : decode cX12_topPair 22 = .ok (.iload 5, 2) := by decide +kernel
theorem dX12_topPair_24 : decode cX12_topPair 24 = .ok (.aload_n 0, 1) := by decide +kernel
theorem dX12_topPair_25 : decode cX12_topPair 25 = .ok (.getfield 252, 3) := by decide +kernel
theorem dX12_topPair_28 : decode cX12_topPair 28 = .ok (.if_icmp .ge 66, 3) := by decide +kernel
theorem dX12_topPair_31 : decode cX12_topPair 31 = .ok (.aload_n 0, 1) := by decide +kernel
theorem dX12_topPair_32 : decode cX12_topPair 32 = .ok (.iload 4, 2) := by decide +kernel
theorem dX12_topPair_34 : decode cX12_topPair 34 = .ok (.iload 5, 2) := by decide +kernel
theorem dX12_topPair_36 : decode cX12_topPair 36 = .ok (.invokevirtual 316, 3) := by decide +kernel
theorem dX12_topPair_39 : decode cX12_topPair 39 = .ok (.ifCond .eq 49, 3) := by decide +kernel
theorem dX12_topPair_42 : decode cX12_topPair 42 = .ok (.iload_n 2, 1) := by decide +kernel
theorem dX12_topPair_43 : decode cX12_topPair 43 = .ok (.iconst (-1), 1) := by decide +kernel
theorem dX12_topPair_44 : decode cX12_topPair 44 = .ok (.if_icmp .eq 21, 3) := by decide +kernel
theorem dX12_topPair_47 : decode cX12_topPair 47 = .ok (.iload_n 1, 1) := by decide +kernel
theorem dX12_topPair_48 : decode cX12_topPair 48 = .ok (.aload_n 0, 1) := by decide +kernel
theorem dX12_topPair_49 : decode cX12_topPair 49 = .ok (.getfield 58, 3) := by decide +kernel
theorem dX12_topPair_52 : decode cX12_topPair 52 = .ok (.iload 4, 2) := by decide +kernel
theorem dX12_topPair_54 : decode cX12_topPair 54 = .ok (.iload 5, 2) := by decide +kernel
theorem dX12_topPair_56 : decode cX12_topPair 56 = .ok (.invokestatic 294, 3) := by decide +kernel
theorem dX12_topPair_59 : decode cX12_topPair 59 = .ok (.iaload, 1) := by decide +kernel
theorem dX12_topPair_60 : decode cX12_topPair 60 = .ok (.imul, 1) := by decide +kernel
theorem dX12_topPair_61 : decode cX12_topPair 61 = .ok (.iload_n 3, 1) := by decide +kernel
theorem dX12_topPair_62 : decode cX12_topPair 62 = .ok (.if_icmp .le 26, 3) := by decide +kernel
theorem dX12_topPair_65 : decode cX12_topPair 65 = .ok (.iload 4, 2) := by decide +kernel
theorem dX12_topPair_67 : decode cX12_topPair 67 = .ok (.iload 5, 2) := by decide +kernel
theorem dX12_topPair_69 : decode cX12_topPair 69 = .ok (.invokestatic 301, 3) := by decide +kernel
theorem dX12_topPair_72 : decode cX12_topPair 72 = .ok (.istore_n 2, 1) := by decide +kernel
theorem dX12_topPair_73 : decode cX12_topPair 73 = .ok (.iload_n 1, 1) := by decide +kernel
theorem dX12_topPair_74 : decode cX12_topPair 74 = .ok (.aload_n 0, 1) := by decide +kernel
theorem dX12_topPair_75 : decode cX12_topPair 75 = .ok (.getfield 58, 3) := by decide +kernel
theorem dX12_topPair_78 : decode cX12_topPair 78 = .ok (.iload 4, 2) := by decide +kernel
theorem dX12_topPair_80 : decode cX12_topPair 80 = .ok (.iload 5, 2) := by decide +kernel
theorem dX12_topPair_82 : decode cX12_topPair 82 = .ok (.invokestatic 294, 3) := by decide +kernel
theorem dX12_topPair_85 : decode cX12_topPair 85 = .ok (.iaload, 1) := by decide +kernel
theorem dX12_topPair_86 : decode cX12_topPair 86 = .ok (.imul, 1) := by decide +kernel
theorem dX12_topPair_87 : decode cX12_topPair 87 = .ok (.istore_n 3, 1) := by decide +kernel
theorem dX12_topPair_88 : decode cX12_topPair 88 = .ok (.iinc 5 1, 3) := by decide +kernel
theorem dX12_topPair_91 : decode cX12_topPair 91 = .ok (.goto (-69), 3) := by decide +kernel
theorem dX12_topPair_94 : decode cX12_topPair 94 = .ok (.iinc 4 1, 3) := by decide +kernel
theorem dX12_topPair_97 : decode cX12_topPair 97 = .ok (.goto (-90), 3) := by decide +kernel
theorem dX12_topPair_100 : decode cX12_topPair 100 = .ok (.iload_n 2, 1) := by decide +kernel
theorem dX12_topPair_101 : decode cX12_topPair 101 = .ok (.ireturn, 1) := by decide +kernel
theorem dX12_topGlove_0 : decode cX12_topGlove 0 = .ok (.iconst 0, 1) := by decide +kernel
theorem dX12_topGlove_1 : decode cX12_topGlove 1 = .ok (.istore_n 2, 1) := by decide +kernel
theorem dX12_topGlove_2 : decode cX12_topGlove 2 = .ok (.iconst 1, 1) := by decide +kernel
theorem dX12_topGlove_3 : decode cX12_topGlove 3 = .ok (.istore_n 3, 1) := by decide +kernel
theorem dX12_topGlove_4 : decode cX12_topGlove 4 = .ok (.iload_n 3, 1) := by decide +kernel
theorem dX12_topGlove_5 : decode cX12_topGlove 5 = .ok (.aload_n 0, 1) := by decide +kernel
theorem dX12_topGlove_6 : decode cX12_topGlove 6 = .ok (.getfield 252, 3) := by decide +kernel
theorem dX12_topGlove_9 : decode cX12_topGlove 9 = .ok (.if_icmp .ge 34, 3) := by decide +kernel
theorem dX12_topGlove_12 : decode cX12_topGlove 12 = .ok (.aload_n 0, 1) := by decide +kernel
theorem dX12_topGlove_13 : decode cX12_topGlove 13 = .ok (.getfield 58, 3) := by decide +kernel
theorem dX12_topGlove_16 : decode cX12_topGlove 16 = .ok (.iload_n 1, 1) := by decide +kernel
theorem dX12_topGlove_17 : decode cX12_topGlove 17 = .ok (.iload_n 3, 1) := by decide +kernel
theorem dX12_topGlove_18 : decode cX12_topGlove 18 = .ok (.iadd, 1) := by decide +kernel
theorem dX12_topGlove_19 : decode cX12_topGlove 19 = .ok (.iaload, 1) := by decide +kernel
theorem dX12_topGlove_20 : decode cX12_topGlove 20 = .ok (.aload_n 0, 1) := by decide +kernel
theorem dX12_topGlove_21 : decode cX12_topGlove 21 = .ok (.getfield 58, 3) := by decide +kernel
theorem dX12_topGlove_24 : decode cX12_topGlove 24 = .ok (.iload_n 1, 1) := by decide +kernel
theorem dX12_topGlove_25 : decode cX12_topGlove 25 = .ok (.iload_n 2, 1) := by decide +kernel
theorem dX12_topGlove_26 : decode cX12_topGlove 26 = .ok (.iadd, 1) := by decide +kernel
theorem dX12_topGlove_27 : decode cX12_topGlove 27 = .ok (.iaload, 1) := by decide +kernel
theorem dX12_topGlove_28 : decode cX12_topGlove 28 = .ok (.if_icmp .le 7, 3) := by decide +kernel
theorem dX12_topGlove_31 : decode cX12_topGlove 31 = .ok (.iload_n 3, 1) := by decide +kernel
theorem dX12_topGlove_32 : decode cX12_topGlove 32 = .ok (.goto 4, 3) := by decide +kernel
theorem dX12_topGlove_35 : decode cX12_topGlove 35 = .ok (.iload_n 2, 1) := by decide +kernel
theorem dX12_topGlove_36 : decode cX12_topGlove 36 = .ok (.istore_n 2, 1) := by decide +kernel
theorem dX12_topGlove_37 : decode cX12_topGlove 37 = .ok (.iinc 3 1, 3) := by decide +kernel
theorem dX12_topGlove_40 : decode cX12_topGlove 40 = .ok (.goto (-36), 3) := by decide +kernel
theorem dX12_topGlove_43 : decode cX12_topGlove 43 = .ok (.iload_n 2, 1) := by decide +kernel
theorem dX12_topGlove_44 : decode cX12_topGlove 44 = .ok (.ireturn, 1) := by decide +kernel
theorem dX12_heaviest_0 : decode cX12_heaviest 0 = .ok (.aload_n 0, 1) := by decide +kernel
theorem dX12_heaviest_1 : decode cX12_heaviest 1 = .ok (.getfield 255, 3) := by decide +kernel
theorem dX12_heaviest_4 : decode cX12_heaviest 4 = .ok (.ifCond .ne 7, 3) := by decide +kernel
theorem dX12_heaviest_7 : decode cX12_heaviest 7 = .ok (.iconst (-1), 1) := by decide +kernel
theorem dX12_heaviest_8 : decode cX12_heaviest 8 = .ok (.goto 4, 3) := by decide +kernel
theorem dX12_heaviest_11 : decode cX12_heaviest 11 = .ok (.iconst 0, 1) := by decide +kernel
theorem dX12_heaviest_12 : decode cX12_heaviest 12 = .ok (.istore_n 1, 1) := by decide +kernel
theorem dX12_heaviest_13 : decode cX12_heaviest 13 = .ok (.iconst 1, 1) := by decide +kernel
theorem dX12_heaviest_14 : decode cX12_heaviest 14 = .ok (.istore_n 2, 1) := by decide +kernel
theorem dX12_heaviest_15 : decode cX12_heaviest 15 = .ok (.iload_n 2, 1) := by decide +kernel
theorem dX12_heaviest_16 : decode cX12_heaviest 16 = .ok (.aload_n 0, 1) := by decide +kernel
theorem dX12_heaviest_17 : decode cX12_heaviest 17 = .ok (.getfield 255, 3) := by decide +kernel
theorem dX12_heaviest_20 : decode cX12_heaviest 20 = .ok (.if_icmp .ge 38, 3) := by decide +kernel
theorem dX12_heaviest_23 : decode cX12_heaviest 23 = .ok (.aload_n 0, 1) := by decide +kernel
theorem dX12_heaviest_24 : decode cX12_heaviest 24 = .ok (.getfield 55, 3) := by decide +kernel
theorem dX12_heaviest_27 : decode cX12_heaviest 27 = .ok (.iconst 2, 1) := by decide +kernel
theorem dX12_heaviest_28 : decode cX12_heaviest 28 = .ok (.iload_n 2, 1) := by decide +kernel
theorem dX12_heaviest_29 : decode cX12_heaviest 29 = .ok (.imul, 1) := by decide +kernel
theorem dX12_heaviest_30 : decode cX12_heaviest 30 = .ok (.iconst 0, 1) := by decide +kernel
theorem dX12_heaviest_31 : decode cX12_heaviest 31 = .ok (.iadd, 1) := by decide +kernel
theorem dX12_heaviest_32 : decode cX12_heaviest 32 = .ok (.iaload, 1) := by decide +kernel
theorem dX12_heaviest_33 : decode cX12_heaviest 33 = .ok (.aload_n 0, 1) := by decide +kernel
theorem dX12_heaviest_34 : decode cX12_heaviest 34 = .ok (.getfield 55, 3) := by decide +kernel
theorem dX12_heaviest_37 : decode cX12_heaviest 37 = .ok (.iconst 2, 1) := by decide +kernel
theorem dX12_heaviest_38 : decode cX12_heaviest 38 = .ok (.iload_n 1, 1) := by decide +kernel
theorem dX12_heaviest_39 : decode cX12_heaviest 39 = .ok (.imul, 1) := by decide +kernel
theorem dX12_heaviest_40 : decode cX12_heaviest 40 = .ok (.iconst 0, 1) := by decide +kernel
theorem dX12_heaviest_41 : decode cX12_heaviest 41 = .ok (.iadd, 1) := by decide +kernel
theorem dX12_heaviest_42 : decode cX12_heaviest 42 = .ok (.iaload, 1) := by decide +kernel
theorem dX12_heaviest_43 : decode cX12_heaviest 43 = .ok (.if_icmp .le 7, 3) := by decide +kernel
theorem dX12_heaviest_46 : decode cX12_heaviest 46 = .ok (.iload_n 2, 1) := by decide +kernel
theorem dX12_heaviest_47 : decode cX12_heaviest 47 = .ok (.goto 4, 3) := by decide +kernel
theorem dX12_heaviest_50 : decode cX12_heaviest 50 = .ok (.iload_n 1, 1) := by decide +kernel
theorem dX12_heaviest_51 : decode cX12_heaviest 51 = .ok (.istore_n 1, 1) := by decide +kernel
theorem dX12_heaviest_52 : decode cX12_heaviest 52 = .ok (.iinc 2 1, 3) := by decide +kernel
theorem dX12_heaviest_55 : decode cX12_heaviest 55 = .ok (.goto (-40), 3) := by decide +kernel
theorem dX12_heaviest_58 : decode cX12_heaviest 58 = .ok (.iload_n 1, 1) := by decide +kernel
theorem dX12_heaviest_59 : decode cX12_heaviest 59 = .ok (.ireturn, 1) := by decide +kernel
theorem dX12_bound_0 : decode cX12_bound 0 = .ok (.iconst 0, 1) := by decide +kernel
theorem dX12_bound_1 : decode cX12_bound 1 = .ok (.istore_n 1, 1) := by decide +kernel
theorem dX12_bound_2 : decode cX12_bound 2 = .ok (.iconst 0, 1) := by decide +kernel
theorem dX12_bound_3 : decode cX12_bound 3 = .ok (.istore_n 2, 1) := by decide +kernel
theorem dX12_bound_4 : decode cX12_bound 4 = .ok (.iload_n 2, 1) := by decide +kernel
theorem dX12_bound_5 : decode cX12_bound 5 = .ok (.aload_n 0, 1) := by decide +kernel
theorem dX12_bound_6 : decode cX12_bound 6 = .ok (.getfield 255, 3) := by decide +kernel
theorem dX12_bound_9 : decode cX12_bound 9 = .ok (.if_icmp .ge 39, 3) := by decide +kernel
theorem dX12_bound_12 : decode cX12_bound 12 = .ok (.iload_n 1, 1) := by decide +kernel
theorem dX12_bound_13 : decode cX12_bound 13 = .ok (.aload_n 0, 1) := by decide +kernel
theorem dX12_bound_14 : decode cX12_bound 14 = .ok (.getfield 58, 3) := by decide +kernel
theorem dX12_bound_17 : decode cX12_bound 17 = .ok (.bipush 60, 2) := by decide +kernel
theorem dX12_bound_19 : decode cX12_bound 19 = .ok (.iload_n 2, 1) := by decide +kernel
theorem dX12_bound_20 : decode cX12_bound 20 = .ok (.iadd, 1) := by decide +kernel
theorem dX12_bound_21 : decode cX12_bound 21 = .ok (.iaload, 1) := by decide +kernel
theorem dX12_bound_22 : decode cX12_bound 22 = .ok (.iconst (-1), 1) := by decide +kernel
theorem dX12_bound_23 : decode cX12_bound 23 = .ok (.if_icmp .ne 7, 3) := by decide +kernel
theorem dX12_bound_26 : decode cX12_bound 26 = .ok (.iconst 0, 1) := by decide +kernel
theorem dX12_bound_27 : decode cX12_bound 27 = .ok (.goto 13, 3) := by decide +kernel
theorem dX12_bound_30 : decode cX12_bound 30 = .ok (.aload_n 0, 1) := by decide +kernel
theorem dX12_bound_31 : decode cX12_bound 31 = .ok (.getfield 55, 3) := by decide +kernel
theorem dX12_bound_34 : decode cX12_bound 34 = .ok (.iconst 2, 1) := by decide +kernel
theorem dX12_bound_35 : decode cX12_bound 35 = .ok (.iload_n 2, 1) := by decide +kernel
theorem dX12_bound_36 : decode cX12_bound 36 = .ok (.imul, 1) := by decide +kernel
theorem dX12_bound_37 : decode cX12_bound 37 = .ok (.iconst 0, 1) := by decide +kernel
theorem dX12_bound_38 : decode cX12_bound 38 = .ok (.iadd, 1) := by decide +kernel
theorem dX12_bound_39 : decode cX12_bound 39 = .ok (.iaload, 1) := by decide +kernel
theorem dX12_bound_40 : decode cX12_bound 40 = .ok (.iadd, 1) := by decide +kernel
theorem dX12_bound_41 : decode cX12_bound 41 = .ok (.istore_n 1, 1) := by decide +kernel
theorem dX12_bound_42 : decode cX12_bound 42 = .ok (.iinc 2 1, 3) := by decide +kernel
theorem dX12_bound_45 : decode cX12_bound 45 = .ok (.goto (-41), 3) := by decide +kernel
theorem dX12_bound_48 : decode cX12_bound 48 = .ok (.iload_n 1, 1) := by decide +kernel
theorem dX12_bound_49 : decode cX12_bound 49 = .ok (.ireturn, 1) := by decide +kernel
theorem dX12_due_0 : decode cX12_due 0 = .ok (.iconst 0, 1) := by decide +kernel
theorem dX12_due_1 : decode cX12_due 1 = .ok (.istore_n 1, 1) := by decide +kernel
theorem dX12_due_2 : decode cX12_due 2 = .ok (.iconst 0, 1) := by decide +kernel
theorem dX12_due_3 : decode cX12_due 3 = .ok (.istore_n 2, 1) := by decide +kernel
theorem dX12_due_4 : decode cX12_due 4 = .ok (.iload_n 2, 1) := by decide +kernel
theorem dX12_due_5 : decode cX12_due 5 = .ok (.bipush 36, 2) := by decide +kernel
theorem dX12_due_7 : decode cX12_due 7 = .ok (.if_icmp .ge 22, 3) := by decide +kernel
theorem dX12_due_10 : decode cX12_due 10 = .ok (.iload_n 1, 1) := by decide +kernel
theorem dX12_due_11 : decode cX12_due 11 = .ok (.aload_n 0, 1) := by decide +kernel
theorem dX12_due_12 : decode cX12_due 12 = .ok (.getfield 58, 3) := by decide +kernel
theorem dX12_due_15 : decode cX12_due 15 = .ok (.iconst 0, 1) := by decide +kernel
theorem dX12_due_16 : decode cX12_due 16 = .ok (.iload_n 2, 1) := by decide +kernel
theorem dX12_due_17 : decode cX12_due 17 = .ok (.iadd, 1) := by decide +kernel
theorem dX12_due_18 : decode cX12_due 18 = .ok (.iaload, 1) := by decide +kernel
theorem dX12_due_19 : decode cX12_due 19 = .ok (.invokestatic 282, 3) := by decide +kernel
theorem dX12_due_22 : decode cX12_due 22 = .ok (.istore_n 1, 1) := by decide +kernel
theorem dX12_due_23 : decode cX12_due 23 = .ok (.iinc 2 1, 3) := by decide +kernel
theorem dX12_due_26 : decode cX12_due 26 = .ok (.goto (-22), 3) := by decide +kernel
theorem dX12_due_29 : decode cX12_due 29 = .ok (.iconst 0, 1) := by decide +kernel
theorem dX12_due_30 : decode cX12_due 30 = .ok (.istore_n 2, 1) := by decide +kernel
theorem dX12_due_31 : decode cX12_due 31 = .ok (.iconst 0, 1) := by decide +kernel
theorem dX12_due_32 : decode cX12_due 32 = .ok (.istore_n 3, 1) := by decide +kernel
theorem dX12_due_33 : decode cX12_due 33 = .ok (.iload_n 3, 1) := by decide +kernel
theorem dX12_due_34 : decode cX12_due 34 = .ok (.aload_n 0, 1) := by decide +kernel
theorem dX12_due_35 : decode cX12_due 35 = .ok (.getfield 255, 3) := by decide +kernel
theorem dX12_due_38 : decode cX12_due 38 = .ok (.if_icmp .ge 46, 3) := by decide +kernel
theorem dX12_due_41 : decode cX12_due 41 = .ok (.iload_n 2, 1) := by decide +kernel
theorem dX12_due_42 : decode cX12_due 42 = .ok (.aload_n 0, 1) := by decide +kernel
theorem dX12_due_43 : decode cX12_due 43 = .ok (.getfield 58, 3) := by decide +kernel
theorem dX12_due_46 : decode cX12_due 46 = .ok (.bipush 60, 2) := by decide +kernel
theorem dX12_due_48 : decode cX12_due 48 = .ok (.iload_n 3, 1) := by decide +kernel
theorem dX12_due_49 : decode cX12_due 49 = .ok (.iadd, 1) := by decide +kernel
theorem dX12_due_50 : decode cX12_due 50 = .ok (.iaload, 1) := by decide +kernel
theorem dX12_due_51 : decode cX12_due 51 = .ok (.iconst (-1), 1) := by decide +kernel
theorem dX12_due_52 : decode cX12_due 52 = .ok (.if_icmp .ne 23, 3) := by decide +kernel
theorem dX12_due_55 : decode cX12_due 55 = .ok (.aload_n 0, 1) := by decide +kernel
theorem dX12_due_56 : decode cX12_due 56 = .ok (.getfield 55, 3) := by decide +kernel
theorem dX12_due_59 : decode cX12_due 59 = .ok (.iconst 2, 1) := by decide +kernel
theorem dX12_due_60 : decode cX12_due 60 = .ok (.iload_n 3, 1) := by decide +kernel
theorem dX12_due_61 : decode cX12_due 61 = .ok (.imul, 1) := by decide +kernel
theorem dX12_due_62 : decode cX12_due 62 = .ok (.iconst 1, 1) := by decide +kernel
theorem dX12_due_63 : decode cX12_due 63 = .ok (.iadd, 1) := by decide +kernel
theorem dX12_due_64 : decode cX12_due 64 = .ok (.iaload, 1) := by decide +kernel
theorem dX12_due_65 : decode cX12_due 65 = .ok (.iload_n 1, 1) := by decide +kernel
theorem dX12_due_66 : decode cX12_due 66 = .ok (.if_icmp .gt 9, 3) := by decide +kernel
theorem dX12_due_69 : decode cX12_due 69 = .ok (.iconst 1, 1) := by decide +kernel
theorem dX12_due_70 : decode cX12_due 70 = .ok (.iload_n 3, 1) := by decide +kernel
theorem dX12_due_71 : decode cX12_due 71 = .ok (.ishl, 1) := by decide +kernel
theorem dX12_due_72 : decode cX12_due 72 = .ok (.goto 4, 3) := by decide +kernel
theorem dX12_due_75 : decode cX12_due 75 = .ok (.iconst 0, 1) := by decide +kernel
theorem dX12_due_76 : decode cX12_due 76 = .ok (.ior, 1) := by decide +kernel
theorem dX12_due_77 : decode cX12_due 77 = .ok (.istore_n 2, 1) := by decide +kernel
theorem dX12_due_78 : decode cX12_due 78 = .ok (.iinc 3 1, 3) := by decide +kernel
theorem dX12_due_81 : decode cX12_due 81 = .ok (.goto (-48), 3) := by decide +kernel
theorem dX12_due_84 : decode cX12_due 84 = .ok (.iload_n 2, 1) := by decide +kernel
theorem dX12_due_85 : decode cX12_due 85 = .ok (.ireturn, 1) := by decide +kernel
set_option maxRecDepth 20000 in
theorem ggX12_most_X12_metSet : GoodIn wsX12_most wsX12_metSet := goodIn_r _ [6, 1, 7, 8, 9, 5, 10, 11, 67, 68, 69, 70, 71, 72, 73, 74, 75, 76, 77, 78, 79, 80, 81, 82, 83, 84, 85, 86, 87, 88, 89, 90, 91, 92, 93, 94, 95, 96, 97, 98, 99, 100, 101, 102, 103, 104, 105, 106, 107, 108, 109, 110, 111, 112] rfl rfl
set_option maxRecDepth 20000 in
theorem gX12_most_X12_metSet : GoodIn wsX12_most (wsV RX12 426 RX12 yX12_metSet wsX12_metSet) := goodIn_app (goodIn_r _ [2, 3, 4, 5] rfl rfl) ggX12_most_X12_metSet
set_option maxRecDepth 20000 in
theorem ggX12_most_X12_signedSet : GoodIn wsX12_most wsX12_signedSet := goodIn_r _ [15, 16, 11, 67, 68, 69, 70, 71, 72, 73, 74, 75, 76, 77, 78, 79, 80, 81, 82, 83, 84, 85, 86, 87, 88, 89, 90, 91, 92, 93, 94, 95, 96, 97, 98, 99, 100, 101, 102, 103, 104, 105, 106, 107, 108, 109, 110, 111, 112] rfl rfl
set_option maxRecDepth 20000 in
theorem gX12_most_X12_signedSet : GoodIn wsX12_most (wsV RX12 429 RX12 yX12_signedSet wsX12_signedSet) := goodIn_app (goodIn_r _ [12, 13, 14, 5] rfl rfl) ggX12_most_X12_signedSet
set_option maxRecDepth 20000 in
theorem ggX12_most_X12_topPair : GoodIn wsX12_most wsX12_topPair := goodIn_r _ [20, 1, 11, 21, 22, 23, 5, 24, 25, 26, 27, 28, 29, 30, 31, 32, 33, 34, 35, 36, 37, 38, 39, 40, 41, 42, 43, 44, 45, 46, 47, 48, 49, 67, 68, 69, 70, 71, 72, 73, 74, 75, 76, 77, 78, 79, 80, 81, 82, 83, 84, 85, 86, 87, 88, 89, 90, 91, 92, 93, 94, 95, 96, 97, 98, 99, 100, 101, 102, 103, 104, 105, 106, 107, 108, 109, 110, 111, 112] rfl rfl
set_option maxRecDepth 20000 in
theorem gX12_most_X12_topPair : GoodIn wsX12_most (wsV RX12 432 RX12 yX12_topPair wsX12_topPair) := goodIn_app (goodIn_r _ [17, 18, 19, 5] rfl rfl) ggX12_most_X12_topPair
set_option maxRecDepth 20000 in
theorem ggX12_most_X12_topGlove : GoodIn wsX12_most wsX12_topGlove := goodIn_r _ [53, 1, 11, 67, 68, 69, 70, 71, 72, 73, 74, 75, 76, 77, 78, 79, 80, 81, 82, 83, 84, 85, 86, 87, 88, 89, 90, 91, 92, 93, 94, 95, 96, 97, 98, 99, 100, 101, 102, 103, 104, 105, 106, 107, 108, 109, 110, 111, 112] rfl rfl
set_option maxRecDepth 20000 in
theorem gX12_most_X12_topGlove : GoodIn wsX12_most (wsV RX12 435 RX12 yX12_topGlove wsX12_topGlove) := goodIn_app (goodIn_r _ [50, 51, 52, 5] rfl rfl) ggX12_most_X12_topGlove
set_option maxRecDepth 20000 in
theorem ggX12_most_X12_heaviest : GoodIn wsX12_most wsX12_heaviest := goodIn_r _ [57, 16, 58, 67, 68, 69, 70, 71, 72, 73, 74, 75, 76, 77, 78, 79, 80, 81, 82, 83, 84, 85, 86, 87, 88, 89, 90, 91, 92, 93, 94, 95, 96, 97, 98, 99, 100, 101, 102, 103, 104, 105, 106, 107, 108, 109, 110, 111, 112] rfl rfl
set_option maxRecDepth 20000 in
theorem gX12_most_X12_heaviest : GoodIn wsX12_most (wsV RX12 438 RX12 yX12_heaviest wsX12_heaviest) := goodIn_app (goodIn_r _ [54, 55, 56, 5] rfl rfl) ggX12_most_X12_heaviest
set_option maxRecDepth 20000 in
theorem ggX12_most_X12_bound : GoodIn wsX12_most wsX12_bound := goodIn_r _ [62, 16, 11, 58, 67, 68, 69, 70, 71, 72, 73, 74, 75, 76, 77, 78, 79, 80, 81, 82, 83, 84, 85, 86, 87, 88, 89, 90, 91, 92, 93, 94, 95, 96, 97, 98, 99, 100, 101, 102, 103, 104, 105, 106, 107, 108, 109, 110, 111, 112] rfl rfl
set_option maxRecDepth 20000 in
theorem gX12_most_X12_bound : GoodIn wsX12_most (wsV RX12 441 RX12 yX12_bound wsX12_bound) := goodIn_app (goodIn_r _ [59, 60, 61, 5] rfl rfl) ggX12_most_X12_bound
set_option maxRecDepth 20000 in
theorem ggX12_most_X12_due : GoodIn wsX12_most wsX12_due := goodIn_r _ [66, 11, 44, 45, 42, 46, 16, 58, 67, 68, 69, 70, 71, 72, 73, 74, 75, 76, 77, 78, 79, 80, 81, 82, 83, 84, 85, 86, 87, 88, 89, 90, 91, 92, 93, 94, 95, 96, 97, 98, 99, 100, 101, 102, 103, 104, 105, 106, 107, 108, 109, 110, 111, 112] rfl rfl
set_option maxRecDepth 20000 in
theorem gX12_most_X12_due : GoodIn wsX12_most (wsV RX12 444 RX12 yX12_due wsX12_due) := goodIn_app (goodIn_r _ [63, 64, 65, 5] rfl rfl) ggX12_most_X12_due
theorem dX12_most_0 : decode cX12_most 0 = .ok (.aload_n 0, 1) := by decide +kernel
theorem dX12_most_1 : decode cX12_most 1 = .ok (.getfield 252, 3) := by decide +kernel
theorem dX12_most_4 : decode cX12_most 4 = .ok (.ifCond .ne 5, 3) := by decide +kernel
theorem dX12_most_7 : decode cX12_most 7 = .ok (.iconst (-1), 1) := by decide +kernel
theorem dX12_most_8 : decode cX12_most 8 = .ok (.ireturn, 1) := by decide +kernel
theorem dX12_most_9 : decode cX12_most 9 = .ok (.iload_n 1, 1) := by decide +kernel
theorem dX12_most_10 : decode cX12_most 10 = .ok (.tableswitch 101 0 8 #[50, 55, 60, 66, 72, 79, 86, 91, 96], 50) := by decide +kernel
theorem dX12_most_60 : decode cX12_most 60 = .ok (.aload_n 0, 1) := by decide +kernel
theorem dX12_most_61 : decode cX12_most 61 = .ok (.invokevirtual 426, 3) := by decide +kernel
theorem dX12_most_64 : decode cX12_most 64 = .ok (.ireturn, 1) := by decide +kernel
theorem dX12_most_65 : decode cX12_most 65 = .ok (.aload_n 0, 1) := by decide +kernel
theorem dX12_most_66 : decode cX12_most 66 = .ok (.invokevirtual 429, 3) := by decide +kernel
theorem dX12_most_69 : decode cX12_most 69 = .ok (.ireturn, 1) := by decide +kernel
theorem dX12_most_70 : decode cX12_most 70 = .ok (.aload_n 0, 1) := by decide +kernel
theorem dX12_most_71 : decode cX12_most 71 = .ok (.iconst 1, 1) := by decide +kernel
theorem dX12_most_72 : decode cX12_most 72 = .ok (.invokevirtual 432, 3) := by decide +kernel
theorem dX12_most_75 : decode cX12_most 75 = .ok (.ireturn, 1) := by decide +kernel
theorem dX12_most_76 : decode cX12_most 76 = .ok (.aload_n 0, 1) := by decide +kernel
theorem dX12_most_77 : decode cX12_most 77 = .ok (.iconst (-1), 1) := by decide +kernel
theorem dX12_most_78 : decode cX12_most 78 = .ok (.invokevirtual 432, 3) := by decide +kernel
theorem dX12_most_81 : decode cX12_most 81 = .ok (.ireturn, 1) := by decide +kernel
theorem dX12_most_82 : decode cX12_most 82 = .ok (.aload_n 0, 1) := by decide +kernel
theorem dX12_most_83 : decode cX12_most 83 = .ok (.bipush 36, 2) := by decide +kernel
theorem dX12_most_85 : decode cX12_most 85 = .ok (.invokevirtual 435, 3) := by decide +kernel
theorem dX12_most_88 : decode cX12_most 88 = .ok (.ireturn, 1) := by decide +kernel
theorem dX12_most_89 : decode cX12_most 89 = .ok (.aload_n 0, 1) := by decide +kernel
theorem dX12_most_90 : decode cX12_most 90 = .ok (.bipush 42, 2) := by decide +kernel
theorem dX12_most_92 : decode cX12_most 92 = .ok (.invokevirtual 435, 3) := by decide +kernel
theorem dX12_most_95 : decode cX12_most 95 = .ok (.ireturn, 1) := by decide +kernel
theorem dX12_most_96 : decode cX12_most 96 = .ok (.aload_n 0, 1) := by decide +kernel
theorem dX12_most_97 : decode cX12_most 97 = .ok (.invokevirtual 438, 3) := by decide +kernel
theorem dX12_most_100 : decode cX12_most 100 = .ok (.ireturn, 1) := by decide +kernel
theorem dX12_most_101 : decode cX12_most 101 = .ok (.aload_n 0, 1) := by decide +kernel
theorem dX12_most_102 : decode cX12_most 102 = .ok (.invokevirtual 441, 3) := by decide +kernel
theorem dX12_most_105 : decode cX12_most 105 = .ok (.ireturn, 1) := by decide +kernel
theorem dX12_most_106 : decode cX12_most 106 = .ok (.aload_n 0, 1) := by decide +kernel
theorem dX12_most_107 : decode cX12_most 107 = .ok (.invokevirtual 444, 3) := by decide +kernel
theorem dX12_most_110 : decode cX12_most 110 = .ok (.ireturn, 1) := by decide +kernel
theorem dX12_most_111 : decode cX12_most 111 = .ok (.iconst (-1), 1) := by decide +kernel
theorem dX12_most_112 : decode cX12_most 112 = .ok (.ireturn, 1) := by decide +kernel
set_option maxRecDepth 20000 in
theorem ggX12_allies_X12_isGlove : GoodIn wsX12_allies wsX12_isGlove := goodIn_r _ [6, 1, 7, 8, 5, 9, 23, 24, 25, 26, 27, 28, 29, 30, 31, 32, 33, 34, 35, 36, 37, 38, 39, 40, 41, 42, 43, 44, 45, 46, 47, 48, 49, 50, 51, 52, 53, 54, 55, 56, 57, 58, 59, 60, 61, 62, 63, 64, 65, 66, 67, 68] rfl rfl
set_option maxRecDepth 20000 in
theorem gX12_allies_X12_isGlove : GoodIn wsX12_allies (wsV RX12 277 RX12 yX12_isGlove wsX12_isGlove) := goodIn_app (goodIn_r _ [2, 3, 4, 5] rfl rfl) ggX12_allies_X12_isGlove
set_option maxRecDepth 20000 in
theorem ggX12_allies_X12_areTwo : GoodIn wsX12_allies wsX12_areTwo := goodIn_r _ [13, 2, 3, 4, 5, 6, 1, 7, 8, 9, 14, 15, 16, 17, 18, 23, 24, 25, 26, 27, 28, 29, 30, 31, 32, 33, 34, 35, 36, 37, 38, 39, 40, 41, 42, 43, 44, 45, 46, 47, 48, 49, 50, 51, 52, 53, 54, 55, 56, 57, 58, 59, 60, 61, 62, 63, 64, 65, 66, 67, 68] rfl rfl
set_option maxRecDepth 20000 in
theorem gX12_allies_X12_areTwo : GoodIn wsX12_allies (wsV RX12 316 RX12 yX12_areTwo wsX12_areTwo) := goodIn_app (goodIn_r _ [10, 11, 12, 5] rfl rfl) ggX12_allies_X12_areTwo
set_option maxRecDepth 20000 in
theorem ggX12_allies_X12_areAllies : GoodIn wsX12_allies wsX12_areAllies := goodIn_r _ [22, 14, 15, 16, 5, 17, 18, 23, 24, 25, 26, 27, 28, 29, 30, 31, 32, 33, 34, 35, 36, 37, 38, 39, 40, 41, 42, 43, 44, 45, 46, 47, 48, 49, 50, 51, 52, 53, 54, 55, 56, 57, 58, 59, 60, 61, 62, 63, 64, 65, 66, 67, 68] rfl rfl
set_option maxRecDepth 20000 in
theorem gX12_allies_X12_areAllies : GoodIn wsX12_allies (wsV RX12 287 RX12 yX12_areAllies wsX12_areAllies) := goodIn_app (goodIn_r _ [19, 20, 21, 5] rfl rfl) ggX12_allies_X12_areAllies
theorem dX12_allies_0 : decode cX12_allies 0 = .ok (.aload_n 0, 1) := by decide +kernel
theorem dX12_allies_1 : decode cX12_allies 1 = .ok (.iload_n 1, 1) := by decide +kernel
theorem dX12_allies_2 : decode cX12_allies 2 = .ok (.invokevirtual 277, 3) := by decide +kernel
theorem dX12_allies_5 : decode cX12_allies 5 = .ok (.ifCond .ne 5, 3) := by decide +kernel
theorem dX12_allies_8 : decode cX12_allies 8 = .ok (.iconst (-1), 1) := by decide +kernel
theorem dX12_allies_9 : decode cX12_allies 9 = .ok (.ireturn, 1) := by decide +kernel
theorem dX12_allies_10 : decode cX12_allies 10 = .ok (.iconst 0, 1) := by decide +kernel
theorem dX12_allies_11 : decode cX12_allies 11 = .ok (.istore_n 2, 1) := by decide +kernel
theorem dX12_allies_12 : decode cX12_allies 12 = .ok (.iconst 0, 1) := by decide +kernel
theorem dX12_allies_13 : decode cX12_allies 13 = .ok (.istore_n 3, 1) := by decide +kernel
theorem dX12_allies_14 : decode cX12_allies 14 = .ok (.iload_n 3, 1) := by decide +kernel
theorem dX12_allies_15 : decode cX12_allies 15 = .ok (.aload_n 0, 1) := by decide +kernel
theorem dX12_allies_16 : decode cX12_allies 16 = .ok (.getfield 252, 3) := by decide +kernel
theorem dX12_allies_19 : decode cX12_allies 19 = .ok (.if_icmp .ge 37, 3) := by decide +kernel
theorem dX12_allies_22 : decode cX12_allies 22 = .ok (.iload_n 2, 1) := by decide +kernel
theorem dX12_allies_23 : decode cX12_allies 23 = .ok (.aload_n 0, 1) := by decide +kernel
theorem dX12_allies_24 : decode cX12_allies 24 = .ok (.iload_n 1, 1) := by decide +kernel
theorem dX12_allies_25 : decode cX12_allies 25 = .ok (.iload_n 3, 1) := by decide +kernel
theorem dX12_allies_26 : decode cX12_allies 26 = .ok (.invokevirtual 316, 3) := by decide +kernel
theorem dX12_allies_29 : decode cX12_allies 29 = .ok (.ifCond .eq 18, 3) := by decide +kernel
theorem dX12_allies_32 : decode cX12_allies 32 = .ok (.aload_n 0, 1) := by decide +kernel
theorem dX12_allies_33 : decode cX12_allies 33 = .ok (.iload_n 1, 1) := by decide +kernel
theorem dX12_allies_34 : decode cX12_allies 34 = .ok (.iload_n 3, 1) := by decide +kernel
theorem dX12_allies_35 : decode cX12_allies 35 = .ok (.invokevirtual 287, 3) := by decide +kernel
theorem dX12_allies_38 : decode cX12_allies 38 = .ok (.ifCond .eq 9, 3) := by decide +kernel
theorem dX12_allies_41 : decode cX12_allies 41 = .ok (.iconst 1, 1) := by decide +kernel
theorem dX12_allies_42 : decode cX12_allies 42 = .ok (.iload_n 3, 1) := by decide +kernel
theorem dX12_allies_43 : decode cX12_allies 43 = .ok (.ishl, 1) := by decide +kernel
theorem dX12_allies_44 : decode cX12_allies 44 = .ok (.goto 4, 3) := by decide +kernel
theorem dX12_allies_47 : decode cX12_allies 47 = .ok (.iconst 0, 1) := by decide +kernel
theorem dX12_allies_48 : decode cX12_allies 48 = .ok (.ior, 1) := by decide +kernel
theorem dX12_allies_49 : decode cX12_allies 49 = .ok (.istore_n 2, 1) := by decide +kernel
theorem dX12_allies_50 : decode cX12_allies 50 = .ok (.iinc 3 1, 3) := by decide +kernel
theorem dX12_allies_53 : decode cX12_allies 53 = .ok (.goto (-39), 3) := by decide +kernel
theorem dX12_allies_56 : decode cX12_allies 56 = .ok (.iload_n 2, 1) := by decide +kernel
theorem dX12_allies_57 : decode cX12_allies 57 = .ok (.ireturn, 1) := by decide +kernel
theorem dX12_image_0 : decode cX12_image 0 = .ok (.aload_n 0, 1) := by decide +kernel
theorem dX12_image_1 : decode cX12_image 1 = .ok (.getfield 252, 3) := by decide +kernel
theorem dX12_image_4 : decode cX12_image 4 = .ok (.ifCond .ne 5, 3) := by decide +kernel
theorem dX12_image_7 : decode cX12_image 7 = .ok (.iconst (-1), 1) := by decide +kernel
theorem dX12_image_8 : decode cX12_image 8 = .ok (.ireturn, 1) := by decide +kernel
theorem dX12_image_9 : decode cX12_image 9 = .ok (.iconst 0, 1) := by decide +kernel
theorem dX12_image_10 : decode cX12_image 10 = .ok (.istore_n 1, 1) := by decide +kernel
theorem dX12_image_11 : decode cX12_image 11 = .ok (.iload_n 1, 1) := by decide +kernel
theorem dX12_image_12 : decode cX12_image 12 = .ok (.sipush 250, 3) := by decide +kernel
theorem dX12_image_15 : decode cX12_image 15 = .ok (.if_icmp .ge 21, 3) := by decide +kernel
theorem dX12_image_18 : decode cX12_image 18 = .ok (.aload_n 0, 1) := by decide +kernel
theorem dX12_image_19 : decode cX12_image 19 = .ok (.getfield 93, 3) := by decide +kernel
theorem dX12_image_22 : decode cX12_image 22 = .ok (.iload_n 1, 1) := by decide +kernel
theorem dX12_image_23 : decode cX12_image 23 = .ok (.aload_n 0, 1) := by decide +kernel
theorem dX12_image_24 : decode cX12_image 24 = .ok (.getfield 58, 3) := by decide +kernel
theorem dX12_image_27 : decode cX12_image 27 = .ok (.iload_n 1, 1) := by decide +kernel
theorem dX12_image_28 : decode cX12_image 28 = .ok (.iaload, 1) := by decide +kernel
theorem dX12_image_29 : decode cX12_image 29 = .ok (.iastore, 1) := by decide +kernel
theorem dX12_image_30 : decode cX12_image 30 = .ok (.iinc 1 1, 3) := by decide +kernel
theorem dX12_image_33 : decode cX12_image 33 = .ok (.goto (-22), 3) := by decide +kernel
theorem dX12_image_36 : decode cX12_image 36 = .ok (.aload_n 0, 1) := by decide +kernel
theorem dX12_image_37 : decode cX12_image 37 = .ok (.iconst 1, 1) := by decide +kernel
theorem dX12_image_38 : decode cX12_image 38 = .ok (.putfield 267, 3) := by decide +kernel
theorem dX12_image_41 : decode cX12_image 41 = .ok (.aload_n 0, 1) := by decide +kernel
theorem dX12_image_42 : decode cX12_image 42 = .ok (.getfield 58, 3) := by decide +kernel
theorem dX12_image_45 : decode cX12_image 45 = .ok (.bipush 68, 2) := by decide +kernel
theorem dX12_image_47 : decode cX12_image 47 = .ok (.iaload, 1) := by decide +kernel
theorem dX12_image_48 : decode cX12_image 48 = .ok (.ireturn, 1) := by decide +kernel
theorem dX12_back_0 : decode cX12_back 0 = .ok (.aload_n 0, 1) := by decide +kernel
theorem dX12_back_1 : decode cX12_back 1 = .ok (.getfield 267, 3) := by decide +kernel
theorem dX12_back_4 : decode cX12_back 4 = .ok (.ifCond .ne 5, 3) := by decide +kernel
theorem dX12_back_7 : decode cX12_back 7 = .ok (.iconst (-1), 1) := by decide +kernel
theorem dX12_back_8 : decode cX12_back 8 = .ok (.ireturn, 1) := by decide +kernel
theorem dX12_back_9 : decode cX12_back 9 = .ok (.iconst 0, 1) := by decide +kernel
theorem dX12_back_10 : decode cX12_back 10 = .ok (.istore_n 1, 1) := by decide +kernel
theorem dX12_back_11 : decode cX12_back 11 = .ok (.iload_n 1, 1) := by decide +kernel
theorem dX12_back_12 : decode cX12_back 12 = .ok (.sipush 250, 3) := by decide +kernel
theorem dX12_back_15 : decode cX12_back 15 = .ok (.if_icmp .ge 21, 3) := by decide +kernel
theorem dX12_back_18 : decode cX12_back 18 = .ok (.aload_n 0, 1) := by decide +kernel
theorem dX12_back_19 : decode cX12_back 19 = .ok (.getfield 58, 3) := by decide +kernel
theorem dX12_back_22 : decode cX12_back 22 = .ok (.iload_n 1, 1) := by decide +kernel
theorem dX12_back_23 : decode cX12_back 23 = .ok (.aload_n 0, 1) := by decide +kernel
theorem dX12_back_24 : decode cX12_back 24 = .ok (.getfield 93, 3) := by decide +kernel
theorem dX12_back_27 : decode cX12_back 27 = .ok (.iload_n 1, 1) := by decide +kernel
theorem dX12_back_28 : decode cX12_back 28 = .ok (.iaload, 1) := by decide +kernel
theorem dX12_back_29 : decode cX12_back 29 = .ok (.iastore, 1) := by decide +kernel
theorem dX12_back_30 : decode cX12_back 30 = .ok (.iinc 1 1, 3) := by decide +kernel
theorem dX12_back_33 : decode cX12_back 33 = .ok (.goto (-22), 3) := by decide +kernel
theorem dX12_back_36 : decode cX12_back 36 = .ok (.aload_n 0, 1) := by decide +kernel
theorem dX12_back_37 : decode cX12_back 37 = .ok (.iconst 0, 1) := by decide +kernel
theorem dX12_back_38 : decode cX12_back 38 = .ok (.putfield 264, 3) := by decide +kernel
theorem dX12_back_41 : decode cX12_back 41 = .ok (.aload_n 0, 1) := by decide +kernel
theorem dX12_back_42 : decode cX12_back 42 = .ok (.getfield 58, 3) := by decide +kernel
theorem dX12_back_45 : decode cX12_back 45 = .ok (.bipush 68, 2) := by decide +kernel
theorem dX12_back_47 : decode cX12_back 47 = .ok (.iaload, 1) := by decide +kernel
theorem dX12_back_48 : decode cX12_back 48 = .ok (.ireturn, 1) := by decide +kernel
set_option maxRecDepth 20000 in
theorem ggX12_count_X12_warmthOfAll : GoodIn wsX12_count wsX12_warmthOfAll := goodIn_r _ [15, 6, 24, 25, 26, 27, 28, 29, 30, 31, 32, 33, 34, 35, 36, 37, 38, 39, 40, 41, 42, 43, 44, 45, 46, 47, 48, 49, 50, 51, 52, 53, 54, 55, 56, 57, 58, 59, 60, 61, 62, 63, 64, 65, 66, 67, 68, 69] rfl rfl
set_option maxRecDepth 20000 in
theorem gX12_count_X12_warmthOfAll : GoodIn wsX12_count (wsV RX12 328 RX12 yX12_warmthOfAll wsX12_warmthOfAll) := goodIn_app (goodIn_r _ [11, 12, 13, 14] rfl rfl) ggX12_count_X12_warmthOfAll
set_option maxRecDepth 20000 in
theorem ggX12_count_X12_metMany : GoodIn wsX12_count wsX12_metMany := goodIn_r _ [19, 1, 20, 21, 22, 14, 23, 6, 24, 25, 26, 27, 28, 29, 30, 31, 32, 33, 34, 35, 36, 37, 38, 39, 40, 41, 42, 43, 44, 45, 46, 47, 48, 49, 50, 51, 52, 53, 54, 55, 56, 57, 58, 59, 60, 61, 62, 63, 64, 65, 66, 67, 68, 69] rfl rfl
set_option maxRecDepth 20000 in
theorem gX12_count_X12_metMany : GoodIn wsX12_count (wsV RX12 322 RX12 yX12_metMany wsX12_metMany) := goodIn_app (goodIn_r _ [16, 17, 18, 14] rfl rfl) ggX12_count_X12_metMany
theorem dX12_count_0 : decode cX12_count 0 = .ok (.iload_n 1, 1) := by decide +kernel
theorem dX12_count_1 : decode cX12_count 1 = .ok (.tableswitch 129 0 11 #[63, 68, 73, 78, 83, 88, 96, 101, 106, 111, 116, 124], 63) := by decide +kernel
theorem dX12_count_64 : decode cX12_count 64 = .ok (.aload_n 0, 1) := by decide +kernel
theorem dX12_count_65 : decode cX12_count 65 = .ok (.getfield 252, 3) := by decide +kernel
theorem dX12_count_68 : decode cX12_count 68 = .ok (.ireturn, 1) := by decide +kernel
theorem dX12_count_69 : decode cX12_count 69 = .ok (.aload_n 0, 1) := by decide +kernel
theorem dX12_count_70 : decode cX12_count 70 = .ok (.getfield 255, 3) := by decide +kernel
theorem dX12_count_73 : decode cX12_count 73 = .ok (.ireturn, 1) := by decide +kernel
theorem dX12_count_74 : decode cX12_count 74 = .ok (.aload_n 0, 1) := by decide +kernel
theorem dX12_count_75 : decode cX12_count 75 = .ok (.getfield 274, 3) := by decide +kernel
theorem dX12_count_78 : decode cX12_count 78 = .ok (.ireturn, 1) := by decide +kernel
theorem dX12_count_79 : decode cX12_count 79 = .ok (.aload_n 0, 1) := by decide +kernel
theorem dX12_count_80 : decode cX12_count 80 = .ok (.getfield 103, 3) := by decide +kernel
theorem dX12_count_83 : decode cX12_count 83 = .ok (.ireturn, 1) := by decide +kernel
theorem dX12_count_84 : decode cX12_count 84 = .ok (.aload_n 0, 1) := by decide +kernel
theorem dX12_count_85 : decode cX12_count 85 = .ok (.getfield 64, 3) := by decide +kernel
theorem dX12_count_88 : decode cX12_count 88 = .ok (.ireturn, 1) := by decide +kernel
theorem dX12_count_89 : decode cX12_count 89 = .ok (.aload_n 0, 1) := by decide +kernel
theorem dX12_count_90 : decode cX12_count 90 = .ok (.getfield 58, 3) := by decide +kernel
theorem dX12_count_93 : decode cX12_count 93 = .ok (.bipush 68, 2) := by decide +kernel
theorem dX12_count_95 : decode cX12_count 95 = .ok (.iaload, 1) := by decide +kernel
theorem dX12_count_96 : decode cX12_count 96 = .ok (.ireturn, 1) := by decide +kernel
theorem dX12_count_97 : decode cX12_count 97 = .ok (.aload_n 0, 1) := by decide +kernel
theorem dX12_count_98 : decode cX12_count 98 = .ok (.invokevirtual 328, 3) := by decide +kernel
theorem dX12_count_101 : decode cX12_count 101 = .ok (.ireturn, 1) := by decide +kernel
theorem dX12_count_102 : decode cX12_count 102 = .ok (.aload_n 0, 1) := by decide +kernel
theorem dX12_count_103 : decode cX12_count 103 = .ok (.invokevirtual 322, 3) := by decide +kernel
theorem dX12_count_106 : decode cX12_count 106 = .ok (.ireturn, 1) := by decide +kernel
theorem dX12_count_107 : decode cX12_count 107 = .ok (.aload_n 0, 1) := by decide +kernel
theorem dX12_count_108 : decode cX12_count 108 = .ok (.getfield 68, 3) := by decide +kernel
theorem dX12_count_111 : decode cX12_count 111 = .ok (.ireturn, 1) := by decide +kernel
theorem dX12_count_112 : decode cX12_count 112 = .ok (.aload_n 0, 1) := by decide +kernel
theorem dX12_count_113 : decode cX12_count 113 = .ok (.getfield 261, 3) := by decide +kernel
theorem dX12_count_116 : decode cX12_count 116 = .ok (.ireturn, 1) := by decide +kernel
theorem dX12_count_117 : decode cX12_count 117 = .ok (.aload_n 0, 1) := by decide +kernel
theorem dX12_count_118 : decode cX12_count 118 = .ok (.getfield 58, 3) := by decide +kernel
theorem dX12_count_121 : decode cX12_count 121 = .ok (.bipush 69, 2) := by decide +kernel
theorem dX12_count_123 : decode cX12_count 123 = .ok (.iaload, 1) := by decide +kernel
theorem dX12_count_124 : decode cX12_count 124 = .ok (.ireturn, 1) := by decide +kernel
theorem dX12_count_125 : decode cX12_count 125 = .ok (.aload_n 0, 1) := by decide +kernel
theorem dX12_count_126 : decode cX12_count 126 = .ok (.getfield 264, 3) := by decide +kernel
theorem dX12_count_129 : decode cX12_count 129 = .ok (.ireturn, 1) := by decide +kernel
theorem dX12_count_130 : decode cX12_count 130 = .ok (.ldc_w 363, 3) := by decide +kernel
theorem dX12_count_133 : decode cX12_count 133 = .ok (.ireturn, 1) := by decide +kernel
