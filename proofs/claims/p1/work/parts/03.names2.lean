theorem dX7_behind_13 : decode cX7_behind 13 = .ok (.iload_n 1, 1) := by decide +kernel
theorem dX7_behind_14 : decode cX7_behind 14 = .ok (.iload_n 2, 1) := by decide +kernel
theorem dX7_behind_15 : decode cX7_behind 15 = .ok (.iload_n 3, 1) := by decide +kernel
theorem dX7_behind_16 : decode cX7_behind 16 = .ok (.invokevirtual 35, 3) := by decide +kernel
theorem dX7_behind_19 : decode cX7_behind 19 = .ok (.ireturn, 1) := by decide +kernel
theorem dX8_init_0 : decode cX8_init 0 = .ok (.aload_n 0, 1) := by decide +kernel
theorem dX8_init_1 : decode cX8_init 1 = .ok (.invokespecial 3, 3) := by decide +kernel
theorem dX8_init_4 : decode cX8_init 4 = .ok (.aload_n 0, 1) := by decide +kernel
theorem dX8_init_5 : decode cX8_init 5 = .ok (.bipush 10, 2) := by decide +kernel
theorem dX8_init_7 : decode cX8_init 7 = .ok (.newarray .int, 2) := by decide +kernel
theorem dX8_init_9 : decode cX8_init 9 = .ok (.putfield 11, 3) := by decide +kernel
theorem dX8_init_12 : decode cX8_init 12 = .ok (.aload_n 0, 1) := by decide +kernel
theorem dX8_init_13 : decode cX8_init 13 = .ok (.bipush 10, 2) := by decide +kernel
theorem dX8_init_15 : decode cX8_init 15 = .ok (.newarray .int, 2) := by decide +kernel
theorem dX8_init_17 : decode cX8_init 17 = .ok (.putfield 15, 3) := by decide +kernel
theorem dX8_init_20 : decode cX8_init 20 = .ok (.aload_n 0, 1) := by decide +kernel
theorem dX8_init_21 : decode cX8_init 21 = .ok (.bipush 10, 2) := by decide +kernel
theorem dX8_init_23 : decode cX8_init 23 = .ok (.newarray .int, 2) := by decide +kernel
theorem dX8_init_25 : decode cX8_init 25 = .ok (.putfield 18, 3) := by decide +kernel
theorem dX8_init_28 : decode cX8_init 28 = .ok (.aload_n 0, 1) := by decide +kernel
theorem dX8_init_29 : decode cX8_init 29 = .ok (.bipush 10, 2) := by decide +kernel
theorem dX8_init_31 : decode cX8_init 31 = .ok (.newarray .boolean, 2) := by decide +kernel
theorem dX8_init_33 : decode cX8_init 33 = .ok (.putfield 21, 3) := by decide +kernel
theorem dX8_init_36 : decode cX8_init 36 = .ok (.aload_n 0, 1) := by decide +kernel
theorem dX8_init_37 : decode cX8_init 37 = .ok (.aload_n 1, 1) := by decide +kernel
theorem dX8_init_38 : decode cX8_init 38 = .ok (.putfield 25, 3) := by decide +kernel
theorem dX8_init_41 : decode cX8_init 41 = .ok (.aload_n 0, 1) := by decide +kernel
theorem dX8_init_42 : decode cX8_init 42 = .ok (.aload_n 2, 1) := by decide +kernel
theorem dX8_init_43 : decode cX8_init 43 = .ok (.putfield 29, 3) := by decide +kernel
theorem dX8_init_46 : decode cX8_init 46 = .ok (.return_, 1) := by decide +kernel
theorem dX8_isFull_0 : decode cX8_isFull 0 = .ok (.aload_n 0, 1) := by decide +kernel
theorem dX8_isFull_1 : decode cX8_isFull 1 = .ok (.getfield 33, 3) := by decide +kernel
theorem dX8_isFull_4 : decode cX8_isFull 4 = .ok (.bipush 10, 2) := by decide +kernel
theorem dX8_isFull_6 : decode cX8_isFull 6 = .ok (.if_icmp .lt 7, 3) := by decide +kernel
theorem dX8_isFull_9 : decode cX8_isFull 9 = .ok (.iconst 1, 1) := by decide +kernel
theorem dX8_isFull_10 : decode cX8_isFull 10 = .ok (.goto 4, 3) := by decide +kernel
theorem dX8_isFull_13 : decode cX8_isFull 13 = .ok (.iconst 0, 1) := by decide +kernel
theorem dX8_isFull_14 : decode cX8_isFull 14 = .ok (.ireturn, 1) := by decide +kernel
theorem dX8_add_0 : decode cX8_add 0 = .ok (.aload_n 0, 1) := by decide +kernel
theorem dX8_add_1 : decode cX8_add 1 = .ok (.getfield 11, 3) := by decide +kernel
theorem dX8_add_4 : decode cX8_add 4 = .ok (.aload_n 0, 1) := by decide +kernel
theorem dX8_add_5 : decode cX8_add 5 = .ok (.getfield 33, 3) := by decide +kernel
theorem dX8_add_8 : decode cX8_add 8 = .ok (.iload_n 1, 1) := by decide +kernel
theorem dX8_add_9 : decode cX8_add 9 = .ok (.iastore, 1) := by decide +kernel
theorem dX8_add_10 : decode cX8_add 10 = .ok (.aload_n 0, 1) := by decide +kernel
theorem dX8_add_11 : decode cX8_add 11 = .ok (.getfield 15, 3) := by decide +kernel
theorem dX8_add_14 : decode cX8_add 14 = .ok (.aload_n 0, 1) := by decide +kernel
theorem dX8_add_15 : decode cX8_add 15 = .ok (.getfield 33, 3) := by decide +kernel
theorem dX8_add_18 : decode cX8_add 18 = .ok (.iload_n 2, 1) := by decide +kernel
theorem dX8_add_19 : decode cX8_add 19 = .ok (.iastore, 1) := by decide +kernel
theorem dX8_add_20 : decode cX8_add 20 = .ok (.aload_n 0, 1) := by decide +kernel
theorem dX8_add_21 : decode cX8_add 21 = .ok (.getfield 18, 3) := by decide +kernel
theorem dX8_add_24 : decode cX8_add 24 = .ok (.aload_n 0, 1) := by decide +kernel
theorem dX8_add_25 : decode cX8_add 25 = .ok (.getfield 33, 3) := by decide +kernel
theorem dX8_add_28 : decode cX8_add 28 = .ok (.iload_n 3, 1) := by decide +kernel
theorem dX8_add_29 : decode cX8_add 29 = .ok (.iastore, 1) := by decide +kernel
theorem dX8_add_30 : decode cX8_add 30 = .ok (.aload_n 0, 1) := by decide +kernel
theorem dX8_add_31 : decode cX8_add 31 = .ok (.getfield 21, 3) := by decide +kernel
theorem dX8_add_34 : decode cX8_add 34 = .ok (.aload_n 0, 1) := by decide +kernel
theorem dX8_add_35 : decode cX8_add 35 = .ok (.getfield 33, 3) := by decide +kernel
theorem dX8_add_38 : decode cX8_add 38 = .ok (.iload 4, 2) := by decide +kernel
theorem dX8_add_40 : decode cX8_add 40 = .ok (.bastore, 1) := by decide +kernel
theorem dX8_add_41 : decode cX8_add 41 = .ok (.aload_n 0, 1) := by decide +kernel
theorem dX8_add_42 : decode cX8_add 42 = .ok (.dup, 1) := by decide +kernel
theorem dX8_add_43 : decode cX8_add 43 = .ok (.getfield 33, 3) := by decide +kernel
theorem dX8_add_46 : decode cX8_add 46 = .ok (.iconst 1, 1) := by decide +kernel
theorem dX8_add_47 : decode cX8_add 47 = .ok (.iadd, 1) := by decide +kernel
theorem dX8_add_48 : decode cX8_add 48 = .ok (.putfield 33, 3) := by decide +kernel
theorem dX8_add_51 : decode cX8_add 51 = .ok (.return_, 1) := by decide +kernel
set_option maxRecDepth 20000 in
theorem ggX8_reaches_X5_sameAim : GoodIn wsX8_reaches wsX5_sameAim := goodIn_r _ [10, 11, 50, 51, 52, 53, 54, 55, 56, 57, 58, 59] rfl rfl
set_option maxRecDepth 20000 in
theorem gX8_reaches_X5_sameAim : GoodIn wsX8_reaches (wsV RX8 45 RX5 yX5_sameAim wsX5_sameAim) := goodIn_app (goodIn_r _ [6, 7, 8, 9] rfl rfl) ggX8_reaches_X5_sameAim
set_option maxRecDepth 20000 in
theorem ggX8_reaches_X2_riseBy : GoodIn wsX8_reaches wsX2_riseBy := goodIn_r _ [16, 17, 18, 19, 20, 21, 22, 23, 24, 25, 26, 27, 28, 29, 30, 15, 31, 32, 33, 34, 35, 36, 37, 38, 39, 40, 41, 42, 60, 61, 62, 63, 64, 65] rfl rfl
set_option maxRecDepth 20000 in
theorem gX8_reaches_X2_riseBy : GoodIn wsX8_reaches (wsV RX8 52 RX2 yX2_riseBy wsX2_riseBy) := goodIn_app (goodIn_r _ [12, 13, 14, 15] rfl rfl) ggX8_reaches_X2_riseBy
theorem dX8_reaches_0 : decode cX8_reaches 0 = .ok (.iload 4, 2) := by decide +kernel
theorem dX8_reaches_2 : decode cX8_reaches 2 = .ok (.aload_n 0, 1) := by decide +kernel
theorem dX8_reaches_3 : decode cX8_reaches 3 = .ok (.getfield 29, 3) := by decide +kernel
theorem dX8_reaches_6 : decode cX8_reaches 6 = .ok (.iload_n 2, 1) := by decide +kernel
theorem dX8_reaches_7 : decode cX8_reaches 7 = .ok (.aload_n 0, 1) := by decide +kernel
theorem dX8_reaches_8 : decode cX8_reaches 8 = .ok (.getfield 25, 3) := by decide +kernel
theorem dX8_reaches_11 : decode cX8_reaches 11 = .ok (.getfield 37, 3) := by decide +kernel
theorem dX8_reaches_14 : decode cX8_reaches 14 = .ok (.iload_n 3, 1) := by decide +kernel
theorem dX8_reaches_15 : decode cX8_reaches 15 = .ok (.iaload, 1) := by decide +kernel
theorem dX8_reaches_16 : decode cX8_reaches 16 = .ok (.iadd, 1) := by decide +kernel
theorem dX8_reaches_17 : decode cX8_reaches 17 = .ok (.aload_n 0, 1) := by decide +kernel
theorem dX8_reaches_18 : decode cX8_reaches 18 = .ok (.getfield 25, 3) := by decide +kernel
theorem dX8_reaches_21 : decode cX8_reaches 21 = .ok (.getfield 42, 3) := by decide +kernel
theorem dX8_reaches_24 : decode cX8_reaches 24 = .ok (.iload_n 1, 1) := by decide +kernel
theorem dX8_reaches_25 : decode cX8_reaches 25 = .ok (.iaload, 1) := by decide +kernel
theorem dX8_reaches_26 : decode cX8_reaches 26 = .ok (.aload_n 0, 1) := by decide +kernel
theorem dX8_reaches_27 : decode cX8_reaches 27 = .ok (.getfield 25, 3) := by decide +kernel
theorem dX8_reaches_30 : decode cX8_reaches 30 = .ok (.getfield 42, 3) := by decide +kernel
theorem dX8_reaches_33 : decode cX8_reaches 33 = .ok (.iload_n 3, 1) := by decide +kernel
theorem dX8_reaches_34 : decode cX8_reaches 34 = .ok (.iaload, 1) := by decide +kernel
theorem dX8_reaches_35 : decode cX8_reaches 35 = .ok (.iadd, 1) := by decide +kernel
theorem dX8_reaches_36 : decode cX8_reaches 36 = .ok (.iconst 0, 1) := by decide +kernel
theorem dX8_reaches_37 : decode cX8_reaches 37 = .ok (.aload_n 0, 1) := by decide +kernel
theorem dX8_reaches_38 : decode cX8_reaches 38 = .ok (.getfield 25, 3) := by decide +kernel
theorem dX8_reaches_41 : decode cX8_reaches 41 = .ok (.iload_n 1, 1) := by decide +kernel
theorem dX8_reaches_42 : decode cX8_reaches 42 = .ok (.iload_n 3, 1) := by decide +kernel
theorem dX8_reaches_43 : decode cX8_reaches 43 = .ok (.invokevirtual 45, 3) := by decide +kernel
theorem dX8_reaches_46 : decode cX8_reaches 46 = .ok (.aload_n 0, 1) := by decide +kernel
theorem dX8_reaches_47 : decode cX8_reaches 47 = .ok (.getfield 25, 3) := by decide +kernel
theorem dX8_reaches_50 : decode cX8_reaches 50 = .ok (.getfield 49, 3) := by decide +kernel
theorem dX8_reaches_53 : decode cX8_reaches 53 = .ok (.iconst 0, 1) := by decide +kernel
theorem dX8_reaches_54 : decode cX8_reaches 54 = .ok (.invokevirtual 52, 3) := by decide +kernel
theorem dX8_reaches_57 : decode cX8_reaches 57 = .ok (.if_icmp .gt 7, 3) := by decide +kernel
theorem dX8_reaches_60 : decode cX8_reaches 60 = .ok (.iconst 1, 1) := by decide +kernel
theorem dX8_reaches_61 : decode cX8_reaches 61 = .ok (.goto 4, 3) := by decide +kernel
theorem dX8_reaches_64 : decode cX8_reaches 64 = .ok (.iconst 0, 1) := by decide +kernel
theorem dX8_reaches_65 : decode cX8_reaches 65 = .ok (.ireturn, 1) := by decide +kernel
set_option maxRecDepth 20000 in
theorem ggX8_allow_X8_reaches : GoodIn wsX8_allow wsX8_reaches := goodIn_r _ [10, 11, 12, 13, 14, 15, 16, 17, 18, 19, 20, 21, 22, 23, 24, 25, 26, 27, 28, 29, 30, 31, 32, 33, 34, 35, 36, 37, 38, 39, 40, 41, 42, 43, 44, 45, 46, 47, 48, 49, 50, 51, 52, 53, 54, 55, 56, 57, 58, 59, 60, 61, 62, 63, 64, 65, 66, 67, 68, 69, 70, 71, 72, 73, 74, 75] rfl rfl
set_option maxRecDepth 20000 in
theorem gX8_allow_X8_reaches : GoodIn wsX8_allow (wsV RX8 58 RX8 yX8_reaches wsX8_reaches) := goodIn_app (goodIn_r _ [6, 7, 8, 9] rfl rfl) ggX8_allow_X8_reaches
theorem dX8_allow_0 : decode cX8_allow 0 = .ok (.iconst 0, 1) := by decide +kernel
theorem dX8_allow_1 : decode cX8_allow 1 = .ok (.istore_n 3, 1) := by decide +kernel
theorem dX8_allow_2 : decode cX8_allow 2 = .ok (.iload_n 3, 1) := by decide +kernel
theorem dX8_allow_3 : decode cX8_allow 3 = .ok (.aload_n 0, 1) := by decide +kernel
theorem dX8_allow_4 : decode cX8_allow 4 = .ok (.getfield 33, 3) := by decide +kernel
theorem dX8_allow_7 : decode cX8_allow 7 = .ok (.if_icmp .ge 81, 3) := by decide +kernel
theorem dX8_allow_10 : decode cX8_allow 10 = .ok (.aload_n 0, 1) := by decide +kernel
theorem dX8_allow_11 : decode cX8_allow 11 = .ok (.getfield 11, 3) := by decide +kernel
theorem dX8_allow_14 : decode cX8_allow 14 = .ok (.iload_n 3, 1) := by decide +kernel
theorem dX8_allow_15 : decode cX8_allow 15 = .ok (.iaload, 1) := by decide +kernel
theorem dX8_allow_16 : decode cX8_allow 16 = .ok (.iload_n 1, 1) := by decide +kernel
theorem dX8_allow_17 : decode cX8_allow 17 = .ok (.if_icmp .eq 13, 3) := by decide +kernel
theorem dX8_allow_20 : decode cX8_allow 20 = .ok (.aload_n 0, 1) := by decide +kernel
theorem dX8_allow_21 : decode cX8_allow 21 = .ok (.getfield 15, 3) := by decide +kernel
theorem dX8_allow_24 : decode cX8_allow 24 = .ok (.iload_n 3, 1) := by decide +kernel
theorem dX8_allow_25 : decode cX8_allow 25 = .ok (.iaload, 1) := by decide +kernel
theorem dX8_allow_26 : decode cX8_allow 26 = .ok (.iload_n 1, 1) := by decide +kernel
theorem dX8_allow_27 : decode cX8_allow 27 = .ok (.if_icmp .ne 55, 3) := by decide +kernel
theorem dX8_allow_30 : decode cX8_allow 30 = .ok (.aload_n 0, 1) := by decide +kernel
theorem dX8_allow_31 : decode cX8_allow 31 = .ok (.getfield 11, 3) := by decide +kernel
theorem dX8_allow_34 : decode cX8_allow 34 = .ok (.iload_n 3, 1) := by decide +kernel
theorem dX8_allow_35 : decode cX8_allow 35 = .ok (.iaload, 1) := by decide +kernel
theorem dX8_allow_36 : decode cX8_allow 36 = .ok (.iload_n 1, 1) := by decide +kernel
theorem dX8_allow_37 : decode cX8_allow 37 = .ok (.if_icmp .ne 12, 3) := by decide +kernel
theorem dX8_allow_40 : decode cX8_allow 40 = .ok (.aload_n 0, 1) := by decide +kernel
theorem dX8_allow_41 : decode cX8_allow 41 = .ok (.getfield 15, 3) := by decide +kernel
theorem dX8_allow_44 : decode cX8_allow 44 = .ok (.iload_n 3, 1) := by decide +kernel
theorem dX8_allow_45 : decode cX8_allow 45 = .ok (.iaload, 1) := by decide +kernel
theorem dX8_allow_46 : decode cX8_allow 46 = .ok (.goto 9, 3) := by decide +kernel
theorem dX8_allow_49 : decode cX8_allow 49 = .ok (.aload_n 0, 1) := by decide +kernel
theorem dX8_allow_50 : decode cX8_allow 50 = .ok (.getfield 11, 3) := by decide +kernel
theorem dX8_allow_53 : decode cX8_allow 53 = .ok (.iload_n 3, 1) := by decide +kernel
theorem dX8_allow_54 : decode cX8_allow 54 = .ok (.iaload, 1) := by decide +kernel
theorem dX8_allow_55 : decode cX8_allow 55 = .ok (.istore 4, 2) := by decide +kernel
theorem dX8_allow_57 : decode cX8_allow 57 = .ok (.aload_n 0, 1) := by decide +kernel
theorem dX8_allow_58 : decode cX8_allow 58 = .ok (.iload_n 1, 1) := by decide +kernel
theorem dX8_allow_59 : decode cX8_allow 59 = .ok (.iload_n 2, 1) := by decide +kernel
theorem dX8_allow_60 : decode cX8_allow 60 = .ok (.iload 4, 2) := by decide +kernel
theorem dX8_allow_62 : decode cX8_allow 62 = .ok (.aload_n 0, 1) := by decide +kernel
theorem dX8_allow_63 : decode cX8_allow 63 = .ok (.getfield 18, 3) := by decide +kernel
theorem dX8_allow_66 : decode cX8_allow 66 = .ok (.iload_n 3, 1) := by decide +kernel
theorem dX8_allow_67 : decode cX8_allow 67 = .ok (.iaload, 1) := by decide +kernel
theorem dX8_allow_68 : decode cX8_allow 68 = .ok (.invokevirtual 58, 3) := by decide +kernel
theorem dX8_allow_71 : decode cX8_allow 71 = .ok (.aload_n 0, 1) := by decide +kernel
theorem dX8_allow_72 : decode cX8_allow 72 = .ok (.getfield 21, 3) := by decide +kernel
theorem dX8_allow_75 : decode cX8_allow 75 = .ok (.iload_n 3, 1) := by decide +kernel
theorem dX8_allow_76 : decode cX8_allow 76 = .ok (.baload, 1) := by decide +kernel
theorem dX8_allow_77 : decode cX8_allow 77 = .ok (.if_icmp .eq 5, 3) := by decide +kernel
theorem dX8_allow_80 : decode cX8_allow 80 = .ok (.iconst 0, 1) := by decide +kernel
theorem dX8_allow_81 : decode cX8_allow 81 = .ok (.ireturn, 1) := by decide +kernel
theorem dX8_allow_82 : decode cX8_allow 82 = .ok (.iinc 3 1, 3) := by decide +kernel
theorem dX8_allow_85 : decode cX8_allow 85 = .ok (.goto (-83), 3) := by decide +kernel
theorem dX8_allow_88 : decode cX8_allow 88 = .ok (.iconst 1, 1) := by decide +kernel
theorem dX8_allow_89 : decode cX8_allow 89 = .ok (.ireturn, 1) := by decide +kernel
set_option maxRecDepth 20000 in
theorem ggX8_fitting_X8_allow : GoodIn wsX8_fitting wsX8_allow := goodIn_r _ [5, 6, 7, 8, 9, 10, 11, 12, 13, 4, 14, 15, 16, 17, 18, 19, 20, 21, 22, 23, 24, 25, 26, 27, 28, 29, 30, 31, 32, 33, 34, 35, 36, 37, 38, 39, 40, 41, 42, 43, 44, 45, 46, 47, 48, 49, 50, 51, 52, 53, 54, 55, 56, 57, 58, 59, 60, 61, 62, 63, 64, 65, 66, 67, 68, 69, 70, 71, 72, 73, 74, 75, 76, 77, 78, 79] rfl rfl
set_option maxRecDepth 20000 in
theorem gX8_fitting_X8_allow : GoodIn wsX8_fitting (wsV RX8 62 RX8 yX8_allow wsX8_allow) := goodIn_app (goodIn_r _ [1, 2, 3, 4] rfl rfl) ggX8_fitting_X8_allow
theorem dX8_fitting_0 : decode cX8_fitting 0 = .ok (.iconst 0, 1) := by decide +kernel
theorem dX8_fitting_1 : decode cX8_fitting 1 = .ok (.istore_n 2, 1) := by decide +kernel
theorem dX8_fitting_2 : decode cX8_fitting 2 = .ok (.iconst 0, 1) := by decide +kernel
theorem dX8_fitting_3 : decode cX8_fitting 3 = .ok (.istore_n 3, 1) := by decide +kernel
theorem dX8_fitting_4 : decode cX8_fitting 4 = .ok (.iload_n 3, 1) := by decide +kernel
theorem dX8_fitting_5 : decode cX8_fitting 5 = .ok (.bipush 9, 2) := by decide +kernel
theorem dX8_fitting_7 : decode cX8_fitting 7 = .ok (.if_icmp .gt 24, 3) := by decide +kernel
theorem dX8_fitting_10 : decode cX8_fitting 10 = .ok (.aload_n 0, 1) := by decide +kernel
theorem dX8_fitting_11 : decode cX8_fitting 11 = .ok (.iload_n 1, 1) := by decide +kernel
theorem dX8_fitting_12 : decode cX8_fitting 12 = .ok (.iload_n 3, 1) := by decide +kernel
theorem dX8_fitting_13 : decode cX8_fitting 13 = .ok (.invokevirtual 62, 3) := by decide +kernel
theorem dX8_fitting_16 : decode cX8_fitting 16 = .ok (.ifCond .eq 9, 3) := by decide +kernel
theorem dX8_fitting_19 : decode cX8_fitting 19 = .ok (.iload_n 2, 1) := by decide +kernel
theorem dX8_fitting_20 : decode cX8_fitting 20 = .ok (.iconst 1, 1) := by decide +kernel
theorem dX8_fitting_21 : decode cX8_fitting 21 = .ok (.iload_n 3, 1) := by decide +kernel
theorem dX8_fitting_22 : decode cX8_fitting 22 = .ok (.ishl, 1) := by decide +kernel
theorem dX8_fitting_23 : decode cX8_fitting 23 = .ok (.ior, 1) := by decide +kernel
theorem dX8_fitting_24 : decode cX8_fitting 24 = .ok (.istore_n 2, 1) := by decide +kernel
theorem dX8_fitting_25 : decode cX8_fitting 25 = .ok (.iinc 3 1, 3) := by decide +kernel
theorem dX8_fitting_28 : decode cX8_fitting 28 = .ok (.goto (-24), 3) := by decide +kernel
theorem dX8_fitting_31 : decode cX8_fitting 31 = .ok (.iload_n 2, 1) := by decide +kernel
theorem dX8_fitting_32 : decode cX8_fitting 32 = .ok (.ireturn, 1) := by decide +kernel
set_option maxRecDepth 20000 in
theorem ggX8_gap_X8_reaches : GoodIn wsX8_gap wsX8_reaches := goodIn_r _ [9, 10, 11, 12, 13, 14, 15, 16, 17, 18, 19, 20, 21, 22, 23, 24, 25, 26, 27, 28, 29, 30, 31, 3, 32, 33, 34, 35, 36, 37, 38, 39, 40, 41, 42, 43, 44, 45, 46, 47, 48, 49, 50, 51, 52, 53, 54, 55, 56, 57, 58, 59, 60, 61, 62, 63, 64, 65, 66, 67, 68, 69, 70, 71, 72, 73] rfl rfl
set_option maxRecDepth 20000 in
theorem gX8_gap_X8_reaches : GoodIn wsX8_gap (wsV RX8 58 RX8 yX8_reaches wsX8_reaches) := goodIn_app (goodIn_r _ [5, 6, 7, 8] rfl rfl) ggX8_gap_X8_reaches
theorem dX8_gap_0 : decode cX8_gap 0 = .ok (.iconst 0, 1) := by decide +kernel
theorem dX8_gap_1 : decode cX8_gap 1 = .ok (.istore 5, 2) := by decide +kernel
theorem dX8_gap_3 : decode cX8_gap 3 = .ok (.iconst 0, 1) := by decide +kernel
theorem dX8_gap_4 : decode cX8_gap 4 = .ok (.istore 6, 2) := by decide +kernel
theorem dX8_gap_6 : decode cX8_gap 6 = .ok (.iload 6, 2) := by decide +kernel
theorem dX8_gap_8 : decode cX8_gap 8 = .ok (.bipush 9, 2) := by decide +kernel
theorem dX8_gap_10 : decode cX8_gap 10 = .ok (.if_icmp .gt 42, 3) := by decide +kernel
theorem dX8_gap_13 : decode cX8_gap 13 = .ok (.iload 4, 2) := by decide +kernel
theorem dX8_gap_15 : decode cX8_gap 15 = .ok (.iload 6, 2) := by decide +kernel
theorem dX8_gap_17 : decode cX8_gap 17 = .ok (.ishr, 1) := by decide +kernel
theorem dX8_gap_18 : decode cX8_gap 18 = .ok (.iconst 1, 1) := by decide +kernel
theorem dX8_gap_19 : decode cX8_gap 19 = .ok (.iand, 1) := by decide +kernel
theorem dX8_gap_20 : decode cX8_gap 20 = .ok (.iconst 1, 1) := by decide +kernel
theorem dX8_gap_21 : decode cX8_gap 21 = .ok (.if_icmp .ne 25, 3) := by decide +kernel
theorem dX8_gap_24 : decode cX8_gap 24 = .ok (.iload 5, 2) := by decide +kernel
theorem dX8_gap_26 : decode cX8_gap 26 = .ok (.aload_n 0, 1) := by decide +kernel
theorem dX8_gap_27 : decode cX8_gap 27 = .ok (.iload_n 1, 1) := by decide +kernel
theorem dX8_gap_28 : decode cX8_gap 28 = .ok (.iload 6, 2) := by decide +kernel
theorem dX8_gap_30 : decode cX8_gap 30 = .ok (.iload_n 2, 1) := by decide +kernel
theorem dX8_gap_31 : decode cX8_gap 31 = .ok (.iload_n 3, 1) := by decide +kernel
theorem dX8_gap_32 : decode cX8_gap 32 = .ok (.invokevirtual 58, 3) := by decide +kernel
theorem dX8_gap_35 : decode cX8_gap 35 = .ok (.ifCond .eq 7, 3) := by decide +kernel
theorem dX8_gap_38 : decode cX8_gap 38 = .ok (.iconst 1, 1) := by decide +kernel
theorem dX8_gap_39 : decode cX8_gap 39 = .ok (.goto 4, 3) := by decide +kernel
theorem dX8_gap_42 : decode cX8_gap 42 = .ok (.iconst (-1), 1) := by decide +kernel
theorem dX8_gap_43 : decode cX8_gap 43 = .ok (.iadd, 1) := by decide +kernel
theorem dX8_gap_44 : decode cX8_gap 44 = .ok (.istore 5, 2) := by decide +kernel
theorem dX8_gap_46 : decode cX8_gap 46 = .ok (.iinc 6 1, 3) := by decide +kernel
theorem dX8_gap_49 : decode cX8_gap 49 = .ok (.goto (-43), 3) := by decide +kernel
theorem dX8_gap_52 : decode cX8_gap 52 = .ok (.iload 5, 2) := by decide +kernel
theorem dX8_gap_54 : decode cX8_gap 54 = .ok (.invokestatic 66, 3) := by decide +kernel
theorem dX8_gap_57 : decode cX8_gap 57 = .ok (.ireturn, 1) := by decide +kernel
theorem dX9_init_0 : decode cX9_init 0 = .ok (.aload_n 0, 1) := by decide +kernel
theorem dX9_init_1 : decode cX9_init 1 = .ok (.invokespecial 3, 3) := by decide +kernel
theorem dX9_init_4 : decode cX9_init 4 = .ok (.aload_n 0, 1) := by decide +kernel
theorem dX9_init_5 : decode cX9_init 5 = .ok (.bipush 69, 2) := by decide +kernel
theorem dX9_init_7 : decode cX9_init 7 = .ok (.newarray .int, 2) := by decide +kernel
theorem dX9_init_9 : decode cX9_init 9 = .ok (.putfield 11, 3) := by decide +kernel
theorem dX9_init_12 : decode cX9_init 12 = .ok (.aload_n 0, 1) := by decide +kernel
theorem dX9_init_13 : decode cX9_init 13 = .ok (.aload_n 1, 1) := by decide +kernel
theorem dX9_init_14 : decode cX9_init 14 = .ok (.putfield 15, 3) := by decide +kernel
theorem dX9_init_17 : decode cX9_init 17 = .ok (.aload_n 0, 1) := by decide +kernel
theorem dX9_init_18 : decode cX9_init 18 = .ok (.aload_n 2, 1) := by decide +kernel
theorem dX9_init_19 : decode cX9_init 19 = .ok (.putfield 19, 3) := by decide +kernel
theorem dX9_init_22 : decode cX9_init 22 = .ok (.return_, 1) := by decide +kernel
theorem dX9_copyFrom_0 : decode cX9_copyFrom 0 = .ok (.aload_n 1, 1) := by decide +kernel
theorem dX9_copyFrom_1 : decode cX9_copyFrom 1 = .ok (.getfield 11, 3) := by decide +kernel
theorem dX9_copyFrom_4 : decode cX9_copyFrom 4 = .ok (.iconst 0, 1) := by decide +kernel
theorem dX9_copyFrom_5 : decode cX9_copyFrom 5 = .ok (.aload_n 0, 1) := by decide +kernel
theorem dX9_copyFrom_6 : decode cX9_copyFrom 6 = .ok (.getfield 11, 3) := by decide +kernel
theorem dX9_copyFrom_9 : decode cX9_copyFrom 9 = .ok (.iconst 0, 1) := by decide +kernel
theorem dX9_copyFrom_10 : decode cX9_copyFrom 10 = .ok (.bipush 69, 2) := by decide +kernel
theorem dX9_copyFrom_12 : decode cX9_copyFrom 12 = .ok (.invokestatic 23, 3) := by decide +kernel
theorem dX9_copyFrom_15 : decode cX9_copyFrom 15 = .ok (.return_, 1) := by decide +kernel
theorem dX9_begin_0 : decode cX9_begin 0 = .ok (.iconst 0, 1) := by decide +kernel
theorem dX9_begin_1 : decode cX9_begin 1 = .ok (.istore_n 1, 1) := by decide +kernel
theorem dX9_begin_2 : decode cX9_begin 2 = .ok (.iload_n 1, 1) := by decide +kernel
theorem dX9_begin_3 : decode cX9_begin 3 = .ok (.bipush 36, 2) := by decide +kernel
theorem dX9_begin_5 : decode cX9_begin 5 = .ok (.if_icmp .ge 16, 3) := by decide +kernel
theorem dX9_begin_8 : decode cX9_begin 8 = .ok (.aload_n 0, 1) := by decide +kernel
theorem dX9_begin_9 : decode cX9_begin 9 = .ok (.getfield 11, 3) := by decide +kernel
theorem dX9_begin_12 : decode cX9_begin 12 = .ok (.iload_n 1, 1) := by decide +kernel
theorem dX9_begin_13 : decode cX9_begin 13 = .ok (.iconst 0, 1) := by decide +kernel
theorem dX9_begin_14 : decode cX9_begin 14 = .ok (.iastore, 1) := by decide +kernel
theorem dX9_begin_15 : decode cX9_begin 15 = .ok (.iinc 1 1, 3) := by decide +kernel
theorem dX9_begin_18 : decode cX9_begin 18 = .ok (.goto (-16), 3) := by decide +kernel
theorem dX9_begin_21 : decode cX9_begin 21 = .ok (.iconst 0, 1) := by decide +kernel
theorem dX9_begin_22 : decode cX9_begin 22 = .ok (.istore_n 1, 1) := by decide +kernel
theorem dX9_begin_23 : decode cX9_begin 23 = .ok (.iload_n 1, 1) := by decide +kernel
theorem dX9_begin_24 : decode cX9_begin 24 = .ok (.bipush 6, 2) := by decide +kernel
theorem dX9_begin_26 : decode cX9_begin 26 = .ok (.if_icmp .ge 67, 3) := by decide +kernel
theorem dX9_begin_29 : decode cX9_begin 29 = .ok (.aload_n 0, 1) := by decide +kernel
theorem dX9_begin_30 : decode cX9_begin 30 = .ok (.getfield 11, 3) := by decide +kernel
theorem dX9_begin_33 : decode cX9_begin 33 = .ok (.bipush 36, 2) := by decide +kernel
theorem dX9_begin_35 : decode cX9_begin 35 = .ok (.iload_n 1, 1) := by decide +kernel
theorem dX9_begin_36 : decode cX9_begin 36 = .ok (.iadd, 1) := by decide +kernel
theorem dX9_begin_37 : decode cX9_begin 37 = .ok (.aload_n 0, 1) := by decide +kernel
theorem dX9_begin_38 : decode cX9_begin 38 = .ok (.getfield 15, 3) := by decide +kernel
theorem dX9_begin_41 : decode cX9_begin 41 = .ok (.getfield 29, 3) := by decide +kernel
theorem dX9_begin_44 : decode cX9_begin 44 = .ok (.iload_n 1, 1) := by decide +kernel
theorem dX9_begin_45 : decode cX9_begin 45 = .ok (.iaload, 1) := by decide +kernel
theorem dX9_begin_46 : decode cX9_begin 46 = .ok (.iastore, 1) := by decide +kernel
theorem dX9_begin_47 : decode cX9_begin 47 = .ok (.aload_n 0, 1) := by decide +kernel
theorem dX9_begin_48 : decode cX9_begin 48 = .ok (.getfield 11, 3) := by decide +kernel
theorem dX9_begin_51 : decode cX9_begin 51 = .ok (.bipush 42, 2) := by decide +kernel
theorem dX9_begin_53 : decode cX9_begin 53 = .ok (.iload_n 1, 1) := by decide +kernel
theorem dX9_begin_54 : decode cX9_begin 54 = .ok (.iadd, 1) := by decide +kernel
theorem dX9_begin_55 : decode cX9_begin 55 = .ok (.aload_n 0, 1) := by decide +kernel
theorem dX9_begin_56 : decode cX9_begin 56 = .ok (.getfield 15, 3) := by decide +kernel
theorem dX9_begin_59 : decode cX9_begin 59 = .ok (.getfield 34, 3) := by decide +kernel
theorem dX9_begin_62 : decode cX9_begin 62 = .ok (.iload_n 1, 1) := by decide +kernel
theorem dX9_begin_63 : decode cX9_begin 63 = .ok (.iaload, 1) := by decide +kernel
theorem dX9_begin_64 : decode cX9_begin 64 = .ok (.iastore, 1) := by decide +kernel
theorem dX9_begin_65 : decode cX9_begin 65 = .ok (.aload_n 0, 1) := by decide +kernel
theorem dX9_begin_66 : decode cX9_begin 66 = .ok (.getfield 11, 3) := by decide +kernel
theorem dX9_begin_69 : decode cX9_begin 69 = .ok (.bipush 48, 2) := by decide +kernel
theorem dX9_begin_71 : decode cX9_begin 71 = .ok (.iload_n 1, 1) := by decide +kernel
theorem dX9_begin_72 : decode cX9_begin 72 = .ok (.iadd, 1) := by decide +kernel
theorem dX9_begin_73 : decode cX9_begin 73 = .ok (.iconst 1, 1) := by decide +kernel
theorem dX9_begin_74 : decode cX9_begin 74 = .ok (.iload_n 1, 1) := by decide +kernel
theorem dX9_begin_75 : decode cX9_begin 75 = .ok (.ishl, 1) := by decide +kernel
theorem dX9_begin_76 : decode cX9_begin 76 = .ok (.iastore, 1) := by decide +kernel
theorem dX9_begin_77 : decode cX9_begin 77 = .ok (.aload_n 0, 1) := by decide +kernel
theorem dX9_begin_78 : decode cX9_begin 78 = .ok (.getfield 11, 3) := by decide +kernel
theorem dX9_begin_81 : decode cX9_begin 81 = .ok (.bipush 54, 2) := by decide +kernel
theorem dX9_begin_83 : decode cX9_begin 83 = .ok (.iload_n 1, 1) := by decide +kernel
theorem dX9_begin_84 : decode cX9_begin 84 = .ok (.iadd, 1) := by decide +kernel
theorem dX9_begin_85 : decode cX9_begin 85 = .ok (.iconst (-1), 1) := by decide +kernel
theorem dX9_begin_86 : decode cX9_begin 86 = .ok (.iastore, 1) := by decide +kernel
theorem dX9_begin_87 : decode cX9_begin 87 = .ok (.iinc 1 1, 3) := by decide +kernel
theorem dX9_begin_90 : decode cX9_begin 90 = .ok (.goto (-67), 3) := by decide +kernel
theorem dX9_begin_93 : decode cX9_begin 93 = .ok (.iconst 0, 1) := by decide +kernel
theorem dX9_begin_94 : decode cX9_begin 94 = .ok (.istore_n 1, 1) := by decide +kernel
theorem dX9_begin_95 : decode cX9_begin 95 = .ok (.iload_n 1, 1) := by decide +kernel
theorem dX9_begin_96 : decode cX9_begin 96 = .ok (.iconst 5, 1) := by decide +kernel
theorem dX9_begin_97 : decode cX9_begin 97 = .ok (.if_icmp .ge 19, 3) := by decide +kernel
theorem dX9_begin_100 : decode cX9_begin 100 = .ok (.aload_n 0, 1) := by decide +kernel
theorem dX9_begin_101 : decode cX9_begin 101 = .ok (.getfield 11, 3) := by decide +kernel
theorem dX9_begin_104 : decode cX9_begin 104 = .ok (.bipush 60, 2) := by decide +kernel
theorem dX9_begin_106 : decode cX9_begin 106 = .ok (.iload_n 1, 1) := by decide +kernel
theorem dX9_begin_107 : decode cX9_begin 107 = .ok (.iadd, 1) := by decide +kernel
theorem dX9_begin_108 : decode cX9_begin 108 = .ok (.iconst (-1), 1) := by decide +kernel
theorem dX9_begin_109 : decode cX9_begin 109 = .ok (.iastore, 1) := by decide +kernel
theorem dX9_begin_110 : decode cX9_begin 110 = .ok (.iinc 1 1, 3) := by decide +kernel
theorem dX9_begin_113 : decode cX9_begin 113 = .ok (.goto (-18), 3) := by decide +kernel
theorem dX9_begin_116 : decode cX9_begin 116 = .ok (.aload_n 0, 1) := by decide +kernel
theorem dX9_begin_117 : decode cX9_begin 117 = .ok (.getfield 11, 3) := by decide +kernel
theorem dX9_begin_120 : decode cX9_begin 120 = .ok (.bipush 65, 2) := by decide +kernel
theorem dX9_begin_122 : decode cX9_begin 122 = .ok (.iconst 0, 1) := by decide +kernel
theorem dX9_begin_123 : decode cX9_begin 123 = .ok (.iastore, 1) := by decide +kernel
theorem dX9_begin_124 : decode cX9_begin 124 = .ok (.aload_n 0, 1) := by decide +kernel
theorem dX9_begin_125 : decode cX9_begin 125 = .ok (.getfield 11, 3) := by decide +kernel
theorem dX9_begin_128 : decode cX9_begin 128 = .ok (.bipush 66, 2) := by decide +kernel
theorem dX9_begin_130 : decode cX9_begin 130 = .ok (.aload_n 0, 1) := by decide +kernel
theorem dX9_begin_131 : decode cX9_begin 131 = .ok (.getfield 15, 3) := by decide +kernel
theorem dX9_begin_134 : decode cX9_begin 134 = .ok (.getfield 37, 3) := by decide +kernel
theorem dX9_begin_137 : decode cX9_begin 137 = .ok (.iastore, 1) := by decide +kernel
theorem dX9_begin_138 : decode cX9_begin 138 = .ok (.aload_n 0, 1) := by decide +kernel
theorem dX9_begin_139 : decode cX9_begin 139 = .ok (.getfield 11, 3) := by decide +kernel
theorem dX9_begin_142 : decode cX9_begin 142 = .ok (.bipush 67, 2) := by decide +kernel
theorem dX9_begin_144 : decode cX9_begin 144 = .ok (.aload_n 0, 1) := by decide +kernel
theorem dX9_begin_145 : decode cX9_begin 145 = .ok (.getfield 15, 3) := by decide +kernel
theorem dX9_begin_148 : decode cX9_begin 148 = .ok (.getfield 41, 3) := by decide +kernel
theorem dX9_begin_151 : decode cX9_begin 151 = .ok (.iastore, 1) := by decide +kernel
theorem dX9_begin_152 : decode cX9_begin 152 = .ok (.aload_n 0, 1) := by decide +kernel
theorem dX9_begin_153 : decode cX9_begin 153 = .ok (.getfield 11, 3) := by decide +kernel
theorem dX9_begin_156 : decode cX9_begin 156 = .ok (.bipush 68, 2) := by decide +kernel
theorem dX9_begin_158 : decode cX9_begin 158 = .ok (.iconst 0, 1) := by decide +kernel
theorem dX9_begin_159 : decode cX9_begin 159 = .ok (.iastore, 1) := by decide +kernel
theorem dX9_begin_160 : decode cX9_begin 160 = .ok (.return_, 1) := by decide +kernel
theorem dX9_free_0 : decode cX9_free 0 = .ok (.aload_n 0, 1) := by decide +kernel
theorem dX9_free_1 : decode cX9_free 1 = .ok (.getfield 11, 3) := by decide +kernel
theorem dX9_free_4 : decode cX9_free 4 = .ok (.bipush 36, 2) := by decide +kernel
theorem dX9_free_6 : decode cX9_free 6 = .ok (.iload_n 1, 1) := by decide +kernel
theorem dX9_free_7 : decode cX9_free 7 = .ok (.iadd, 1) := by decide +kernel
theorem dX9_free_8 : decode cX9_free 8 = .ok (.iaload, 1) := by decide +kernel
theorem dX9_free_9 : decode cX9_free 9 = .ok (.ireturn, 1) := by decide +kernel
theorem dX9_setFree_0 : decode cX9_setFree 0 = .ok (.aload_n 0, 1) := by decide +kernel
theorem dX9_setFree_1 : decode cX9_setFree 1 = .ok (.getfield 11, 3) := by decide +kernel
theorem dX9_setFree_4 : decode cX9_setFree 4 = .ok (.bipush 36, 2) := by decide +kernel
theorem dX9_setFree_6 : decode cX9_setFree 6 = .ok (.iload_n 1, 1) := by decide +kernel
theorem dX9_setFree_7 : decode cX9_setFree 7 = .ok (.iadd, 1) := by decide +kernel
theorem dX9_setFree_8 : decode cX9_setFree 8 = .ok (.iload_n 2, 1) := by decide +kernel
theorem dX9_setFree_9 : decode cX9_setFree 9 = .ok (.iastore, 1) := by decide +kernel
theorem dX9_setFree_10 : decode cX9_setFree 10 = .ok (.return_, 1) := by decide +kernel
theorem dX9_stuffed_0 : decode cX9_stuffed 0 = .ok (.aload_n 0, 1) := by decide +kernel
theorem dX9_stuffed_1 : decode cX9_stuffed 1 = .ok (.getfield 11, 3) := by decide +kernel
theorem dX9_stuffed_4 : decode cX9_stuffed 4 = .ok (.bipush 42, 2) := by decide +kernel
theorem dX9_stuffed_6 : decode cX9_stuffed 6 = .ok (.iload_n 1, 1) := by decide +kernel
theorem dX9_stuffed_7 : decode cX9_stuffed 7 = .ok (.iadd, 1) := by decide +kernel
theorem dX9_stuffed_8 : decode cX9_stuffed 8 = .ok (.iaload, 1) := by decide +kernel
theorem dX9_stuffed_9 : decode cX9_stuffed 9 = .ok (.ireturn, 1) := by decide +kernel
theorem dX9_setStuffed_0 : decode cX9_setStuffed 0 = .ok (.aload_n 0, 1) := by decide +kernel
theorem dX9_setStuffed_1 : decode cX9_setStuffed 1 = .ok (.getfield 11, 3) := by decide +kernel
theorem dX9_setStuffed_4 : decode cX9_setStuffed 4 = .ok (.bipush 42, 2) := by decide +kernel
theorem dX9_setStuffed_6 : decode cX9_setStuffed 6 = .ok (.iload_n 1, 1) := by decide +kernel
theorem dX9_setStuffed_7 : decode cX9_setStuffed 7 = .ok (.iadd, 1) := by decide +kernel
theorem dX9_setStuffed_8 : decode cX9_setStuffed 8 = .ok (.iload_n 2, 1) := by decide +kernel
theorem dX9_setStuffed_9 : decode cX9_setStuffed 9 = .ok (.iastore, 1) := by decide +kernel
theorem dX9_setStuffed_10 : decode cX9_setStuffed 10 = .ok (.return_, 1) := by decide +kernel
theorem dX9_knows_0 : decode cX9_knows 0 = .ok (.aload_n 0, 1) := by decide +kernel
theorem dX9_knows_1 : decode cX9_knows 1 = .ok (.getfield 11, 3) := by decide +kernel
theorem dX9_knows_4 : decode cX9_knows 4 = .ok (.bipush 48, 2) := by decide +kernel
theorem dX9_knows_6 : decode cX9_knows 6 = .ok (.iload_n 1, 1) := by decide +kernel
theorem dX9_knows_7 : decode cX9_knows 7 = .ok (.iadd, 1) := by decide +kernel
theorem dX9_knows_8 : decode cX9_knows 8 = .ok (.iaload, 1) := by decide +kernel
theorem dX9_knows_9 : decode cX9_knows 9 = .ok (.ireturn, 1) := by decide +kernel
theorem dX9_hasMet_0 : decode cX9_hasMet 0 = .ok (.aload_n 0, 1) := by decide +kernel
theorem dX9_hasMet_1 : decode cX9_hasMet 1 = .ok (.getfield 11, 3) := by decide +kernel
theorem dX9_hasMet_4 : decode cX9_hasMet 4 = .ok (.bipush 54, 2) := by decide +kernel
theorem dX9_hasMet_6 : decode cX9_hasMet 6 = .ok (.iload_n 1, 1) := by decide +kernel
theorem dX9_hasMet_7 : decode cX9_hasMet 7 = .ok (.iadd, 1) := by decide +kernel
theorem dX9_hasMet_8 : decode cX9_hasMet 8 = .ok (.iaload, 1) := by decide +kernel
theorem dX9_hasMet_9 : decode cX9_hasMet 9 = .ok (.iconst (-1), 1) := by decide +kernel
theorem dX9_hasMet_10 : decode cX9_hasMet 10 = .ok (.if_icmp .eq 7, 3) := by decide +kernel
theorem dX9_hasMet_13 : decode cX9_hasMet 13 = .ok (.iconst 1, 1) := by decide +kernel
theorem dX9_hasMet_14 : decode cX9_hasMet 14 = .ok (.goto 4, 3) := by decide +kernel
theorem dX9_hasMet_17 : decode cX9_hasMet 17 = .ok (.iconst 0, 1) := by decide +kernel
theorem dX9_hasMet_18 : decode cX9_hasMet 18 = .ok (.ireturn, 1) := by decide +kernel
theorem dX9_signers_0 : decode cX9_signers 0 = .ok (.aload_n 0, 1) := by decide +kernel
theorem dX9_signers_1 : decode cX9_signers 1 = .ok (.getfield 11, 3) := by decide +kernel
theorem dX9_signers_4 : decode cX9_signers 4 = .ok (.bipush 60, 2) := by decide +kernel
theorem dX9_signers_6 : decode cX9_signers 6 = .ok (.iload_n 1, 1) := by decide +kernel
theorem dX9_signers_7 : decode cX9_signers 7 = .ok (.iadd, 1) := by decide +kernel
theorem dX9_signers_8 : decode cX9_signers 8 = .ok (.iaload, 1) := by decide +kernel
theorem dX9_signers_9 : decode cX9_signers 9 = .ok (.ireturn, 1) := by decide +kernel
theorem dX9_tearUp_0 : decode cX9_tearUp 0 = .ok (.aload_n 0, 1) := by decide +kernel
theorem dX9_tearUp_1 : decode cX9_tearUp 1 = .ok (.getfield 11, 3) := by decide +kernel
theorem dX9_tearUp_4 : decode cX9_tearUp 4 = .ok (.bipush 60, 2) := by decide +kernel
theorem dX9_tearUp_6 : decode cX9_tearUp 6 = .ok (.iload_n 1, 1) := by decide +kernel
theorem dX9_tearUp_7 : decode cX9_tearUp 7 = .ok (.iadd, 1) := by decide +kernel
theorem dX9_tearUp_8 : decode cX9_tearUp 8 = .ok (.iconst (-1), 1) := by decide +kernel
theorem dX9_tearUp_9 : decode cX9_tearUp 9 = .ok (.iastore, 1) := by decide +kernel
theorem dX9_tearUp_10 : decode cX9_tearUp 10 = .ok (.return_, 1) := by decide +kernel
theorem dX9_signedToday_0 : decode cX9_signedToday 0 = .ok (.aload_n 0, 1) := by decide +kernel
theorem dX9_signedToday_1 : decode cX9_signedToday 1 = .ok (.getfield 11, 3) := by decide +kernel
theorem dX9_signedToday_4 : decode cX9_signedToday 4 = .ok (.bipush 65, 2) := by decide +kernel
theorem dX9_signedToday_6 : decode cX9_signedToday 6 = .ok (.iaload, 1) := by decide +kernel
theorem dX9_signedToday_7 : decode cX9_signedToday 7 = .ok (.ireturn, 1) := by decide +kernel
theorem dX9_pride_0 : decode cX9_pride 0 = .ok (.aload_n 0, 1) := by decide +kernel
theorem dX9_pride_1 : decode cX9_pride 1 = .ok (.getfield 11, 3) := by decide +kernel
theorem dX9_pride_4 : decode cX9_pride 4 = .ok (.bipush 66, 2) := by decide +kernel
theorem dX9_pride_6 : decode cX9_pride 6 = .ok (.iaload, 1) := by decide +kernel
theorem dX9_pride_7 : decode cX9_pride 7 = .ok (.ireturn, 1) := by decide +kernel
theorem dX9_setPride_0 : decode cX9_setPride 0 = .ok (.aload_n 0, 1) := by decide +kernel
theorem dX9_setPride_1 : decode cX9_setPride 1 = .ok (.getfield 11, 3) := by decide +kernel
theorem dX9_setPride_4 : decode cX9_setPride 4 = .ok (.bipush 66, 2) := by decide +kernel
theorem dX9_setPride_6 : decode cX9_setPride 6 = .ok (.iload_n 1, 1) := by decide +kernel
theorem dX9_setPride_7 : decode cX9_setPride 7 = .ok (.iastore, 1) := by decide +kernel
theorem dX9_setPride_8 : decode cX9_setPride 8 = .ok (.return_, 1) := by decide +kernel
theorem dX9_growProud_0 : decode cX9_growProud 0 = .ok (.aload_n 0, 1) := by decide +kernel
theorem dX9_growProud_1 : decode cX9_growProud 1 = .ok (.getfield 11, 3) := by decide +kernel
theorem dX9_growProud_4 : decode cX9_growProud 4 = .ok (.bipush 66, 2) := by decide +kernel
theorem dX9_growProud_6 : decode cX9_growProud 6 = .ok (.bipush 9, 2) := by decide +kernel
theorem dX9_growProud_8 : decode cX9_growProud 8 = .ok (.aload_n 0, 1) := by decide +kernel
theorem dX9_growProud_9 : decode cX9_growProud 9 = .ok (.getfield 11, 3) := by decide +kernel
theorem dX9_growProud_12 : decode cX9_growProud 12 = .ok (.bipush 66, 2) := by decide +kernel
theorem dX9_growProud_14 : decode cX9_growProud 14 = .ok (.iaload, 1) := by decide +kernel
theorem dX9_growProud_15 : decode cX9_growProud 15 = .ok (.iconst 1, 1) := by decide +kernel
theorem dX9_growProud_16 : decode cX9_growProud 16 = .ok (.iadd, 1) := by decide +kernel
theorem dX9_growProud_17 : decode cX9_growProud 17 = .ok (.invokestatic 44, 3) := by decide +kernel
theorem dX9_growProud_20 : decode cX9_growProud 20 = .ok (.iastore, 1) := by decide +kernel
theorem dX9_growProud_21 : decode cX9_growProud 21 = .ok (.return_, 1) := by decide +kernel
theorem dX9_coins_0 : decode cX9_coins 0 = .ok (.aload_n 0, 1) := by decide +kernel
theorem dX9_coins_1 : decode cX9_coins 1 = .ok (.getfield 11, 3) := by decide +kernel
theorem dX9_coins_4 : decode cX9_coins 4 = .ok (.bipush 67, 2) := by decide +kernel
theorem dX9_coins_6 : decode cX9_coins 6 = .ok (.iaload, 1) := by decide +kernel
theorem dX9_coins_7 : decode cX9_coins 7 = .ok (.ireturn, 1) := by decide +kernel
theorem dX9_pay_0 : decode cX9_pay 0 = .ok (.aload_n 0, 1) := by decide +kernel
theorem dX9_pay_1 : decode cX9_pay 1 = .ok (.getfield 11, 3) := by decide +kernel
theorem dX9_pay_4 : decode cX9_pay 4 = .ok (.bipush 67, 2) := by decide +kernel
theorem dX9_pay_6 : decode cX9_pay 6 = .ok (.dup2, 1) := by decide +kernel
theorem dX9_pay_7 : decode cX9_pay 7 = .ok (.iaload, 1) := by decide +kernel
theorem dX9_pay_8 : decode cX9_pay 8 = .ok (.iload_n 1, 1) := by decide +kernel
theorem dX9_pay_9 : decode cX9_pay 9 = .ok (.isub, 1) := by decide +kernel
theorem dX9_pay_10 : decode cX9_pay 10 = .ok (.iastore, 1) := by decide +kernel
theorem dX9_pay_11 : decode cX9_pay 11 = .ok (.return_, 1) := by decide +kernel
theorem dX9_day_0 : decode cX9_day 0 = .ok (.aload_n 0, 1) := by decide +kernel
theorem dX9_day_1 : decode cX9_day 1 = .ok (.getfield 11, 3) := by decide +kernel
theorem dX9_day_4 : decode cX9_day 4 = .ok (.bipush 68, 2) := by decide +kernel
theorem dX9_day_6 : decode cX9_day 6 = .ok (.iaload, 1) := by decide +kernel
theorem dX9_day_7 : decode cX9_day 7 = .ok (.ireturn, 1) := by decide +kernel
theorem dX9_placeOf_0 : decode cX9_placeOf 0 = .ok (.iload_n 0, 1) := by decide +kernel
theorem dX9_placeOf_1 : decode cX9_placeOf 1 = .ok (.iload_n 1, 1) := by decide +kernel
theorem dX9_placeOf_2 : decode cX9_placeOf 2 = .ok (.if_icmp .ge 12, 3) := by decide +kernel
theorem dX9_placeOf_5 : decode cX9_placeOf 5 = .ok (.iload_n 0, 1) := by decide +kernel
theorem dX9_placeOf_6 : decode cX9_placeOf 6 = .ok (.bipush 6, 2) := by decide +kernel
theorem dX9_placeOf_8 : decode cX9_placeOf 8 = .ok (.imul, 1) := by decide +kernel
theorem dX9_placeOf_9 : decode cX9_placeOf 9 = .ok (.iload_n 1, 1) := by decide +kernel
theorem dX9_placeOf_10 : decode cX9_placeOf 10 = .ok (.iadd, 1) := by decide +kernel
theorem dX9_placeOf_11 : decode cX9_placeOf 11 = .ok (.goto 9, 3) := by decide +kernel
theorem dX9_placeOf_14 : decode cX9_placeOf 14 = .ok (.iload_n 1, 1) := by decide +kernel
theorem dX9_placeOf_15 : decode cX9_placeOf 15 = .ok (.bipush 6, 2) := by decide +kernel
theorem dX9_placeOf_17 : decode cX9_placeOf 17 = .ok (.imul, 1) := by decide +kernel
theorem dX9_placeOf_18 : decode cX9_placeOf 18 = .ok (.iload_n 0, 1) := by decide +kernel
theorem dX9_placeOf_19 : decode cX9_placeOf 19 = .ok (.iadd, 1) := by decide +kernel
theorem dX9_placeOf_20 : decode cX9_placeOf 20 = .ok (.ireturn, 1) := by decide +kernel
set_option maxRecDepth 20000 in
theorem ggX9_warmthOf_X9_placeOf : GoodIn wsX9_warmthOf wsX9_placeOf := goodIn_r _ [5] rfl rfl
set_option maxRecDepth 20000 in
theorem gX9_warmthOf_X9_placeOf : GoodIn wsX9_warmthOf (va_wsS RX9 50 yX9_placeOf wsX9_placeOf) := goodIn_app (goodIn_r _ [2, 3, 4] rfl rfl) ggX9_warmthOf_X9_placeOf
theorem dX9_warmthOf_0 : decode cX9_warmthOf 0 = .ok (.aload_n 0, 1) := by decide +kernel
theorem dX9_warmthOf_1 : decode cX9_warmthOf 1 = .ok (.getfield 11, 3) := by decide +kernel
theorem dX9_warmthOf_4 : decode cX9_warmthOf 4 = .ok (.iload_n 1, 1) := by decide +kernel
theorem dX9_warmthOf_5 : decode cX9_warmthOf 5 = .ok (.iload_n 2, 1) := by decide +kernel
theorem dX9_warmthOf_6 : decode cX9_warmthOf 6 = .ok (.invokestatic 50, 3) := by decide +kernel
theorem dX9_warmthOf_9 : decode cX9_warmthOf 9 = .ok (.iaload, 1) := by decide +kernel
theorem dX9_warmthOf_10 : decode cX9_warmthOf 10 = .ok (.ireturn, 1) := by decide +kernel
set_option maxRecDepth 20000 in
theorem ggX9_riseOf_X9_warmthOf : GoodIn wsX9_riseOf wsX9_warmthOf := goodIn_r _ [5, 6, 7, 8, 4, 9, 69, 70, 71] rfl rfl
set_option maxRecDepth 20000 in
theorem gX9_riseOf_X9_warmthOf : GoodIn wsX9_riseOf (wsV RX9 53 RX9 yX9_warmthOf wsX9_warmthOf) := goodIn_app (goodIn_r _ [1, 2, 3, 4] rfl rfl) ggX9_riseOf_X9_warmthOf
set_option maxRecDepth 20000 in
theorem ggX9_riseOf_X9_day : GoodIn wsX9_riseOf wsX9_day := goodIn_r _ [13, 6, 69, 70, 71] rfl rfl
set_option maxRecDepth 20000 in
theorem gX9_riseOf_X9_day : GoodIn wsX9_riseOf (wsV RX9 56 RX9 yX9_day wsX9_day) := goodIn_app (goodIn_r _ [10, 11, 12, 4] rfl rfl) ggX9_riseOf_X9_day
set_option maxRecDepth 20000 in
theorem ggX9_riseOf_X9_riseAt : GoodIn wsX9_riseOf wsX9_riseAt := goodIn_r _ [17, 18, 19, 20, 21, 22, 4, 23, 6, 24, 25, 26, 27, 28, 29, 30, 31, 32, 33, 34, 35, 36, 37, 38, 39, 40, 41, 42, 43, 44, 45, 46, 47, 48, 49, 50, 51, 52, 53, 54, 55, 56, 57, 58, 59, 60, 61, 62, 63, 64, 65, 66, 67, 68, 69, 70, 71, 72, 73, 74, 75, 76, 77, 78, 79, 80, 81, 82, 83, 84, 85, 86, 87] rfl rfl
set_option maxRecDepth 20000 in
theorem gX9_riseOf_X9_riseAt : GoodIn wsX9_riseOf (wsV RX9 60 RX9 yX9_riseAt wsX9_riseAt) := goodIn_app (goodIn_r _ [14, 15, 16, 4] rfl rfl) ggX9_riseOf_X9_riseAt
theorem dX9_riseOf_0 : decode cX9_riseOf 0 = .ok (.aload_n 0, 1) := by decide +kernel
theorem dX9_riseOf_1 : decode cX9_riseOf 1 = .ok (.iload_n 1, 1) := by decide +kernel
theorem dX9_riseOf_2 : decode cX9_riseOf 2 = .ok (.iload_n 2, 1) := by decide +kernel
theorem dX9_riseOf_3 : decode cX9_riseOf 3 = .ok (.aload_n 0, 1) := by decide +kernel
theorem dX9_riseOf_4 : decode cX9_riseOf 4 = .ok (.iload_n 1, 1) := by decide +kernel
theorem dX9_riseOf_5 : decode cX9_riseOf 5 = .ok (.iload_n 2, 1) := by decide +kernel
theorem dX9_riseOf_6 : decode cX9_riseOf 6 = .ok (.invokevirtual 53, 3) := by decide +kernel
theorem dX9_riseOf_9 : decode cX9_riseOf 9 = .ok (.aload_n 0, 1) := by decide +kernel
theorem dX9_riseOf_10 : decode cX9_riseOf 10 = .ok (.invokevirtual 56, 3) := by decide +kernel
theorem dX9_riseOf_13 : decode cX9_riseOf 13 = .ok (.invokevirtual 60, 3) := by decide +kernel
theorem dX9_riseOf_16 : decode cX9_riseOf 16 = .ok (.ireturn, 1) := by decide +kernel
set_option maxRecDepth 20000 in
theorem ggX9_riseAt_X9_free : GoodIn wsX9_riseAt wsX9_free := goodIn_r _ [7, 8, 54, 55, 56] rfl rfl
set_option maxRecDepth 20000 in
theorem gX9_riseAt_X9_free : GoodIn wsX9_riseAt (wsV RX9 64 RX9 yX9_free wsX9_free) := goodIn_app (goodIn_r _ [3, 4, 5, 6] rfl rfl) ggX9_riseAt_X9_free
set_option maxRecDepth 20000 in
theorem ggX9_riseAt_X9_stuffed : GoodIn wsX9_riseAt wsX9_stuffed := goodIn_r _ [12, 8, 54, 55, 56] rfl rfl
set_option maxRecDepth 20000 in
theorem gX9_riseAt_X9_stuffed : GoodIn wsX9_riseAt (wsV RX9 67 RX9 yX9_stuffed wsX9_stuffed) := goodIn_app (goodIn_r _ [9, 10, 11, 6] rfl rfl) ggX9_riseAt_X9_stuffed
set_option maxRecDepth 20000 in
theorem ggX9_riseAt_X5_sameAim : GoodIn wsX9_riseAt wsX5_sameAim := goodIn_r _ [17, 18, 57, 58, 59, 60, 61, 62, 63, 64, 65, 66] rfl rfl
set_option maxRecDepth 20000 in
theorem gX9_riseAt_X5_sameAim : GoodIn wsX9_riseAt (wsV RX9 69 RX5 yX5_sameAim wsX5_sameAim) := goodIn_app (goodIn_r _ [13, 14, 15, 16] rfl rfl) ggX9_riseAt_X5_sameAim
set_option maxRecDepth 20000 in
theorem ggX9_riseAt_X9_pride : GoodIn wsX9_riseAt wsX9_pride := goodIn_r _ [22, 8, 54, 55, 56] rfl rfl
set_option maxRecDepth 20000 in
theorem gX9_riseAt_X9_pride : GoodIn wsX9_riseAt (wsV RX9 72 RX9 yX9_pride wsX9_pride) := goodIn_app (goodIn_r _ [19, 20, 21, 6] rfl rfl) ggX9_riseAt_X9_pride
set_option maxRecDepth 20000 in
theorem ggX9_riseAt_X2_riseBy : GoodIn wsX9_riseAt wsX2_riseBy := goodIn_r _ [27, 28, 29, 30, 31, 32, 33, 34, 35, 36, 37, 38, 39, 40, 41, 26, 42, 43, 44, 45, 46, 47, 48, 49, 50, 51, 52, 53, 67, 68, 69, 70, 71, 72] rfl rfl
set_option maxRecDepth 20000 in
theorem gX9_riseAt_X2_riseBy : GoodIn wsX9_riseAt (wsV RX9 74 RX2 yX2_riseBy wsX2_riseBy) := goodIn_app (goodIn_r _ [23, 24, 25, 26] rfl rfl) ggX9_riseAt_X2_riseBy
theorem dX9_riseAt_0 : decode cX9_riseAt 0 = .ok (.aload_n 0, 1) := by decide +kernel
theorem dX9_riseAt_1 : decode cX9_riseAt 1 = .ok (.getfield 19, 3) := by decide +kernel
theorem dX9_riseAt_4 : decode cX9_riseAt 4 = .ok (.aload_n 0, 1) := by decide +kernel
theorem dX9_riseAt_5 : decode cX9_riseAt 5 = .ok (.iload_n 1, 1) := by decide +kernel
theorem dX9_riseAt_6 : decode cX9_riseAt 6 = .ok (.invokevirtual 64, 3) := by decide +kernel
theorem dX9_riseAt_9 : decode cX9_riseAt 9 = .ok (.aload_n 0, 1) := by decide +kernel
theorem dX9_riseAt_10 : decode cX9_riseAt 10 = .ok (.iload_n 2, 1) := by decide +kernel
theorem dX9_riseAt_11 : decode cX9_riseAt 11 = .ok (.invokevirtual 64, 3) := by decide +kernel
theorem dX9_riseAt_14 : decode cX9_riseAt 14 = .ok (.iadd, 1) := by decide +kernel
theorem dX9_riseAt_15 : decode cX9_riseAt 15 = .ok (.aload_n 0, 1) := by decide +kernel
theorem dX9_riseAt_16 : decode cX9_riseAt 16 = .ok (.iload_n 1, 1) := by decide +kernel
theorem dX9_riseAt_17 : decode cX9_riseAt 17 = .ok (.invokevirtual 67, 3) := by decide +kernel
theorem dX9_riseAt_20 : decode cX9_riseAt 20 = .ok (.aload_n 0, 1) := by decide +kernel
theorem dX9_riseAt_21 : decode cX9_riseAt 21 = .ok (.iload_n 2, 1) := by decide +kernel
theorem dX9_riseAt_22 : decode cX9_riseAt 22 = .ok (.invokevirtual 67, 3) := by decide +kernel
theorem dX9_riseAt_25 : decode cX9_riseAt 25 = .ok (.iadd, 1) := by decide +kernel
theorem dX9_riseAt_26 : decode cX9_riseAt 26 = .ok (.iload_n 3, 1) := by decide +kernel
theorem dX9_riseAt_27 : decode cX9_riseAt 27 = .ok (.aload_n 0, 1) := by decide +kernel
theorem dX9_riseAt_28 : decode cX9_riseAt 28 = .ok (.getfield 15, 3) := by decide +kernel
theorem dX9_riseAt_31 : decode cX9_riseAt 31 = .ok (.iload_n 1, 1) := by decide +kernel
theorem dX9_riseAt_32 : decode cX9_riseAt 32 = .ok (.iload_n 2, 1) := by decide +kernel
theorem dX9_riseAt_33 : decode cX9_riseAt 33 = .ok (.invokevirtual 69, 3) := by decide +kernel
theorem dX9_riseAt_36 : decode cX9_riseAt 36 = .ok (.aload_n 0, 1) := by decide +kernel
theorem dX9_riseAt_37 : decode cX9_riseAt 37 = .ok (.invokevirtual 72, 3) := by decide +kernel
theorem dX9_riseAt_40 : decode cX9_riseAt 40 = .ok (.iload 4, 2) := by decide +kernel
theorem dX9_riseAt_42 : decode cX9_riseAt 42 = .ok (.invokevirtual 74, 3) := by decide +kernel
theorem dX9_riseAt_45 : decode cX9_riseAt 45 = .ok (.ireturn, 1) := by decide +kernel
set_option maxRecDepth 20000 in
theorem ggX9_warmer_X9_day : GoodIn wsX9_warmer wsX9_day := goodIn_r _ [12, 13, 64, 65, 66] rfl rfl
set_option maxRecDepth 20000 in
theorem gX9_warmer_X9_day : GoodIn wsX9_warmer (wsV RX9 56 RX9 yX9_day wsX9_day) := goodIn_app (goodIn_r _ [8, 9, 10, 11] rfl rfl) ggX9_warmer_X9_day
set_option maxRecDepth 20000 in
theorem ggX9_warmer_X9_riseAt : GoodIn wsX9_warmer wsX9_riseAt := goodIn_r _ [17, 18, 19, 20, 21, 22, 11, 23, 13, 24, 25, 26, 27, 28, 29, 30, 31, 32, 33, 34, 35, 36, 37, 38, 39, 40, 41, 42, 43, 44, 45, 46, 47, 2, 3, 4, 48, 6, 7, 49, 50, 51, 52, 53, 54, 55, 56, 57, 58, 59, 60, 61, 62, 63, 64, 65, 66, 67, 68, 69, 70, 71, 72, 73, 74, 75, 76, 77, 78, 79, 80, 81, 82] rfl rfl
set_option maxRecDepth 20000 in
theorem gX9_warmer_X9_riseAt : GoodIn wsX9_warmer (wsV RX9 60 RX9 yX9_riseAt wsX9_riseAt) := goodIn_app (goodIn_r _ [14, 15, 16, 11] rfl rfl) ggX9_warmer_X9_riseAt
theorem dX9_warmer_0 : decode cX9_warmer 0 = .ok (.aload_n 0, 1) := by decide +kernel
theorem dX9_warmer_1 : decode cX9_warmer 1 = .ok (.iload_n 1, 1) := by decide +kernel
theorem dX9_warmer_2 : decode cX9_warmer 2 = .ok (.iload_n 2, 1) := by decide +kernel
theorem dX9_warmer_3 : decode cX9_warmer 3 = .ok (.iload_n 3, 1) := by decide +kernel
theorem dX9_warmer_4 : decode cX9_warmer 4 = .ok (.sipush 999, 3) := by decide +kernel
theorem dX9_warmer_7 : decode cX9_warmer 7 = .ok (.aload_n 0, 1) := by decide +kernel
theorem dX9_warmer_8 : decode cX9_warmer 8 = .ok (.invokevirtual 56, 3) := by decide +kernel
theorem dX9_warmer_11 : decode cX9_warmer 11 = .ok (.iload 4, 2) := by decide +kernel
theorem dX9_warmer_13 : decode cX9_warmer 13 = .ok (.iadd, 1) := by decide +kernel
theorem dX9_warmer_14 : decode cX9_warmer 14 = .ok (.invokestatic 44, 3) := by decide +kernel
theorem dX9_warmer_17 : decode cX9_warmer 17 = .ok (.invokevirtual 60, 3) := by decide +kernel
theorem dX9_warmer_20 : decode cX9_warmer 20 = .ok (.istore 5, 2) := by decide +kernel
theorem dX9_warmer_22 : decode cX9_warmer 22 = .ok (.iconst 0, 1) := by decide +kernel
theorem dX9_warmer_23 : decode cX9_warmer 23 = .ok (.bipush 99, 2) := by decide +kernel
theorem dX9_warmer_25 : decode cX9_warmer 25 = .ok (.iload_n 3, 1) := by decide +kernel
theorem dX9_warmer_26 : decode cX9_warmer 26 = .ok (.iload 5, 2) := by decide +kernel
theorem dX9_warmer_28 : decode cX9_warmer 28 = .ok (.iadd, 1) := by decide +kernel
theorem dX9_warmer_29 : decode cX9_warmer 29 = .ok (.invokestatic 44, 3) := by decide +kernel
theorem dX9_warmer_32 : decode cX9_warmer 32 = .ok (.invokestatic 80, 3) := by decide +kernel
theorem dX9_warmer_35 : decode cX9_warmer 35 = .ok (.ireturn, 1) := by decide +kernel
set_option maxRecDepth 20000 in
theorem ggX9_meet_X9_placeOf : GoodIn wsX9_meet wsX9_placeOf := goodIn_r _ [5] rfl rfl
set_option maxRecDepth 20000 in
theorem gX9_meet_X9_placeOf : GoodIn wsX9_meet (va_wsS RX9 50 yX9_placeOf wsX9_placeOf) := goodIn_app (goodIn_r _ [2, 3, 4] rfl rfl) ggX9_meet_X9_placeOf
set_option maxRecDepth 20000 in
theorem ggX9_meet_X9_warmthOf : GoodIn wsX9_meet wsX9_warmthOf := goodIn_r _ [9, 1, 2, 3, 4, 5, 89, 90, 91] rfl rfl
set_option maxRecDepth 20000 in
theorem gX9_meet_X9_warmthOf : GoodIn wsX9_meet (wsV RX9 53 RX9 yX9_warmthOf wsX9_warmthOf) := goodIn_app (goodIn_r _ [6, 7, 8, 4] rfl rfl) ggX9_meet_X9_warmthOf
set_option maxRecDepth 20000 in
theorem ggX9_meet_X9_warmer : GoodIn wsX9_meet wsX9_warmer := goodIn_r _ [13, 14, 15, 16, 17, 18, 19, 20, 21, 22, 23, 4, 24, 1, 25, 26, 27, 28, 29, 30, 31, 32, 33, 34, 35, 36, 37, 38, 39, 40, 41, 42, 43, 44, 45, 46, 47, 48, 49, 50, 51, 52, 53, 54, 55, 56, 57, 58, 59, 60, 61, 62, 63, 64, 65, 66, 67, 68, 69, 70, 71, 72, 73, 74, 89, 90, 91, 92, 93, 94, 95, 96, 97, 98, 99, 100, 101, 102, 103, 104, 105, 106, 107] rfl rfl
set_option maxRecDepth 20000 in
theorem gX9_meet_X9_warmer : GoodIn wsX9_meet (wsV RX9 83 RX9 yX9_warmer wsX9_warmer) := goodIn_app (goodIn_r _ [10, 11, 12, 4] rfl rfl) ggX9_meet_X9_warmer
set_option maxRecDepth 20000 in
theorem ggX9_meet_X9_knows : GoodIn wsX9_meet wsX9_knows := goodIn_r _ [78, 1, 89, 90, 91] rfl rfl
set_option maxRecDepth 20000 in
theorem gX9_meet_X9_knows : GoodIn wsX9_meet (wsV RX9 86 RX9 yX9_knows wsX9_knows) := goodIn_app (goodIn_r _ [75, 76, 77, 4] rfl rfl) ggX9_meet_X9_knows
set_option maxRecDepth 20000 in
theorem ggX9_meet_X9_signLowest : GoodIn wsX9_meet wsX9_signLowest := goodIn_r _ [82, 30, 83, 84, 1, 14, 15, 16, 17, 18, 19, 20, 85, 86, 87, 4, 88, 6, 7, 8, 9, 2, 3, 5, 89, 90, 91, 92, 93, 94, 95, 96, 97, 98, 99, 100, 101] rfl rfl
set_option maxRecDepth 20000 in
theorem gX9_meet_X9_signLowest : GoodIn wsX9_meet (wsV RX9 89 RX9 yX9_signLowest wsX9_signLowest) := goodIn_app (goodIn_r _ [79, 80, 81, 4] rfl rfl) ggX9_meet_X9_signLowest
theorem dX9_meet_0 : decode cX9_meet 0 = .ok (.aload_n 0, 1) := by decide +kernel
theorem dX9_meet_1 : decode cX9_meet 1 = .ok (.getfield 11, 3) := by decide +kernel
theorem dX9_meet_4 : decode cX9_meet 4 = .ok (.iload_n 1, 1) := by decide +kernel
theorem dX9_meet_5 : decode cX9_meet 5 = .ok (.iload_n 2, 1) := by decide +kernel
theorem dX9_meet_6 : decode cX9_meet 6 = .ok (.invokestatic 50, 3) := by decide +kernel
theorem dX9_meet_9 : decode cX9_meet 9 = .ok (.aload_n 0, 1) := by decide +kernel
theorem dX9_meet_10 : decode cX9_meet 10 = .ok (.iload_n 1, 1) := by decide +kernel
theorem dX9_meet_11 : decode cX9_meet 11 = .ok (.iload_n 2, 1) := by decide +kernel
theorem dX9_meet_12 : decode cX9_meet 12 = .ok (.aload_n 0, 1) := by decide +kernel
theorem dX9_meet_13 : decode cX9_meet 13 = .ok (.iload_n 1, 1) := by decide +kernel
theorem dX9_meet_14 : decode cX9_meet 14 = .ok (.iload_n 2, 1) := by decide +kernel
theorem dX9_meet_15 : decode cX9_meet 15 = .ok (.invokevirtual 53, 3) := by decide +kernel
theorem dX9_meet_18 : decode cX9_meet 18 = .ok (.iconst 0, 1) := by decide +kernel
theorem dX9_meet_19 : decode cX9_meet 19 = .ok (.invokevirtual 83, 3) := by decide +kernel
theorem dX9_meet_22 : decode cX9_meet 22 = .ok (.iastore, 1) := by decide +kernel
theorem dX9_meet_23 : decode cX9_meet 23 = .ok (.aload_n 0, 1) := by decide +kernel
theorem dX9_meet_24 : decode cX9_meet 24 = .ok (.iload_n 1, 1) := by decide +kernel
theorem dX9_meet_25 : decode cX9_meet 25 = .ok (.invokevirtual 86, 3) := by decide +kernel
theorem dX9_meet_28 : decode cX9_meet 28 = .ok (.aload_n 0, 1) := by decide +kernel
theorem dX9_meet_29 : decode cX9_meet 29 = .ok (.iload_n 2, 1) := by decide +kernel
theorem dX9_meet_30 : decode cX9_meet 30 = .ok (.invokevirtual 86, 3) := by decide +kernel
theorem dX9_meet_33 : decode cX9_meet 33 = .ok (.ior, 1) := by decide +kernel
theorem dX9_meet_34 : decode cX9_meet 34 = .ok (.istore_n 3, 1) := by decide +kernel
theorem dX9_meet_35 : decode cX9_meet 35 = .ok (.aload_n 0, 1) := by decide +kernel
theorem dX9_meet_36 : decode cX9_meet 36 = .ok (.getfield 11, 3) := by decide +kernel
theorem dX9_meet_39 : decode cX9_meet 39 = .ok (.bipush 48, 2) := by decide +kernel
theorem dX9_meet_41 : decode cX9_meet 41 = .ok (.iload_n 1, 1) := by decide +kernel
theorem dX9_meet_42 : decode cX9_meet 42 = .ok (.iadd, 1) := by decide +kernel
theorem dX9_meet_43 : decode cX9_meet 43 = .ok (.iload_n 3, 1) := by decide +kernel
theorem dX9_meet_44 : decode cX9_meet 44 = .ok (.iastore, 1) := by decide +kernel
theorem dX9_meet_45 : decode cX9_meet 45 = .ok (.aload_n 0, 1) := by decide +kernel
theorem dX9_meet_46 : decode cX9_meet 46 = .ok (.getfield 11, 3) := by decide +kernel
theorem dX9_meet_49 : decode cX9_meet 49 = .ok (.bipush 48, 2) := by decide +kernel
theorem dX9_meet_51 : decode cX9_meet 51 = .ok (.iload_n 2, 1) := by decide +kernel
theorem dX9_meet_52 : decode cX9_meet 52 = .ok (.iadd, 1) := by decide +kernel
theorem dX9_meet_53 : decode cX9_meet 53 = .ok (.iload_n 3, 1) := by decide +kernel
theorem dX9_meet_54 : decode cX9_meet 54 = .ok (.iastore, 1) := by decide +kernel
theorem dX9_meet_55 : decode cX9_meet 55 = .ok (.aload_n 0, 1) := by decide +kernel
theorem dX9_meet_56 : decode cX9_meet 56 = .ok (.getfield 11, 3) := by decide +kernel
theorem dX9_meet_59 : decode cX9_meet 59 = .ok (.bipush 54, 2) := by decide +kernel
theorem dX9_meet_61 : decode cX9_meet 61 = .ok (.iload_n 1, 1) := by decide +kernel
theorem dX9_meet_62 : decode cX9_meet 62 = .ok (.iadd, 1) := by decide +kernel
theorem dX9_meet_63 : decode cX9_meet 63 = .ok (.iload_n 2, 1) := by decide +kernel
theorem dX9_meet_64 : decode cX9_meet 64 = .ok (.iastore, 1) := by decide +kernel
theorem dX9_meet_65 : decode cX9_meet 65 = .ok (.aload_n 0, 1) := by decide +kernel
theorem dX9_meet_66 : decode cX9_meet 66 = .ok (.getfield 11, 3) := by decide +kernel
theorem dX9_meet_69 : decode cX9_meet 69 = .ok (.bipush 54, 2) := by decide +kernel
theorem dX9_meet_71 : decode cX9_meet 71 = .ok (.iload_n 2, 1) := by decide +kernel
theorem dX9_meet_72 : decode cX9_meet 72 = .ok (.iadd, 1) := by decide +kernel
theorem dX9_meet_73 : decode cX9_meet 73 = .ok (.iload_n 1, 1) := by decide +kernel
theorem dX9_meet_74 : decode cX9_meet 74 = .ok (.iastore, 1) := by decide +kernel
theorem dX9_meet_75 : decode cX9_meet 75 = .ok (.aload_n 0, 1) := by decide +kernel
theorem dX9_meet_76 : decode cX9_meet 76 = .ok (.iload_n 1, 1) := by decide +kernel
theorem dX9_meet_77 : decode cX9_meet 77 = .ok (.iload_n 2, 1) := by decide +kernel
theorem dX9_meet_78 : decode cX9_meet 78 = .ok (.invokevirtual 89, 3) := by decide +kernel
theorem dX9_meet_81 : decode cX9_meet 81 = .ok (.return_, 1) := by decide +kernel
set_option maxRecDepth 20000 in
theorem ggX9_signLowest_X9_signers : GoodIn wsX9_signLowest wsX9_signers := goodIn_r _ [16, 4, 24, 25, 26] rfl rfl
set_option maxRecDepth 20000 in
theorem gX9_signLowest_X9_signers : GoodIn wsX9_signLowest (wsV RX9 96 RX9 yX9_signers wsX9_signers) := goodIn_app (goodIn_r _ [12, 13, 14, 15] rfl rfl) ggX9_signLowest_X9_signers
set_option maxRecDepth 20000 in
theorem ggX9_signLowest_X9_warmthOf : GoodIn wsX9_signLowest wsX9_warmthOf := goodIn_r _ [20, 4, 21, 22, 15, 23, 24, 25, 26] rfl rfl
set_option maxRecDepth 20000 in
theorem gX9_signLowest_X9_warmthOf : GoodIn wsX9_signLowest (wsV RX9 53 RX9 yX9_warmthOf wsX9_warmthOf) := goodIn_app (goodIn_r _ [17, 18, 19, 15] rfl rfl) ggX9_signLowest_X9_warmthOf
theorem dX9_signLowest_0 : decode cX9_signLowest 0 = .ok (.iconst 0, 1) := by decide +kernel
theorem dX9_signLowest_1 : decode cX9_signLowest 1 = .ok (.istore_n 3, 1) := by decide +kernel
theorem dX9_signLowest_2 : decode cX9_signLowest 2 = .ok (.iload_n 3, 1) := by decide +kernel
theorem dX9_signLowest_3 : decode cX9_signLowest 3 = .ok (.aload_n 0, 1) := by decide +kernel
theorem dX9_signLowest_4 : decode cX9_signLowest 4 = .ok (.getfield 15, 3) := by decide +kernel
theorem dX9_signLowest_7 : decode cX9_signLowest 7 = .ok (.getfield 93, 3) := by decide +kernel
theorem dX9_signLowest_10 : decode cX9_signLowest 10 = .ok (.if_icmp .ge 73, 3) := by decide +kernel
theorem dX9_signLowest_13 : decode cX9_signLowest 13 = .ok (.aload_n 0, 1) := by decide +kernel
theorem dX9_signLowest_14 : decode cX9_signLowest 14 = .ok (.iload_n 3, 1) := by decide +kernel
theorem dX9_signLowest_15 : decode cX9_signLowest 15 = .ok (.invokevirtual 96, 3) := by decide +kernel
theorem dX9_signLowest_18 : decode cX9_signLowest 18 = .ok (.iconst (-1), 1) := by decide +kernel
theorem dX9_signLowest_19 : decode cX9_signLowest 19 = .ok (.if_icmp .ne 58, 3) := by decide +kernel
theorem dX9_signLowest_22 : decode cX9_signLowest 22 = .ok (.aload_n 0, 1) := by decide +kernel
theorem dX9_signLowest_23 : decode cX9_signLowest 23 = .ok (.iload_n 1, 1) := by decide +kernel
theorem dX9_signLowest_24 : decode cX9_signLowest 24 = .ok (.iload_n 2, 1) := by decide +kernel
theorem dX9_signLowest_25 : decode cX9_signLowest 25 = .ok (.invokevirtual 53, 3) := by decide +kernel
theorem dX9_signLowest_28 : decode cX9_signLowest 28 = .ok (.aload_n 0, 1) := by decide +kernel
theorem dX9_signLowest_29 : decode cX9_signLowest 29 = .ok (.getfield 15, 3) := by decide +kernel
theorem dX9_signLowest_32 : decode cX9_signLowest 32 = .ok (.getfield 99, 3) := by decide +kernel
theorem dX9_signLowest_35 : decode cX9_signLowest 35 = .ok (.iload_n 3, 1) := by decide +kernel
theorem dX9_signLowest_36 : decode cX9_signLowest 36 = .ok (.iaload, 1) := by decide +kernel
theorem dX9_signLowest_37 : decode cX9_signLowest 37 = .ok (.if_icmp .lt 40, 3) := by decide +kernel
theorem dX9_signLowest_40 : decode cX9_signLowest 40 = .ok (.aload_n 0, 1) := by decide +kernel
theorem dX9_signLowest_41 : decode cX9_signLowest 41 = .ok (.getfield 11, 3) := by decide +kernel
theorem dX9_signLowest_44 : decode cX9_signLowest 44 = .ok (.bipush 60, 2) := by decide +kernel
theorem dX9_signLowest_46 : decode cX9_signLowest 46 = .ok (.iload_n 3, 1) := by decide +kernel
theorem dX9_signLowest_47 : decode cX9_signLowest 47 = .ok (.iadd, 1) := by decide +kernel
theorem dX9_signLowest_48 : decode cX9_signLowest 48 = .ok (.bipush 10, 2) := by decide +kernel
theorem dX9_signLowest_50 : decode cX9_signLowest 50 = .ok (.iload_n 1, 1) := by decide +kernel
theorem dX9_signLowest_51 : decode cX9_signLowest 51 = .ok (.iload_n 2, 1) := by decide +kernel
theorem dX9_signLowest_52 : decode cX9_signLowest 52 = .ok (.invokestatic 44, 3) := by decide +kernel
theorem dX9_signLowest_55 : decode cX9_signLowest 55 = .ok (.imul, 1) := by decide +kernel
theorem dX9_signLowest_56 : decode cX9_signLowest 56 = .ok (.iload_n 1, 1) := by decide +kernel
theorem dX9_signLowest_57 : decode cX9_signLowest 57 = .ok (.iload_n 2, 1) := by decide +kernel
theorem dX9_signLowest_58 : decode cX9_signLowest 58 = .ok (.invokestatic 80, 3) := by decide +kernel
theorem dX9_signLowest_61 : decode cX9_signLowest 61 = .ok (.iadd, 1) := by decide +kernel
theorem dX9_signLowest_62 : decode cX9_signLowest 62 = .ok (.iastore, 1) := by decide +kernel
theorem dX9_signLowest_63 : decode cX9_signLowest 63 = .ok (.aload_n 0, 1) := by decide +kernel
theorem dX9_signLowest_64 : decode cX9_signLowest 64 = .ok (.getfield 11, 3) := by decide +kernel
theorem dX9_signLowest_67 : decode cX9_signLowest 67 = .ok (.bipush 65, 2) := by decide +kernel
theorem dX9_signLowest_69 : decode cX9_signLowest 69 = .ok (.dup2, 1) := by decide +kernel
theorem dX9_signLowest_70 : decode cX9_signLowest 70 = .ok (.iaload, 1) := by decide +kernel
theorem dX9_signLowest_71 : decode cX9_signLowest 71 = .ok (.iconst 1, 1) := by decide +kernel
theorem dX9_signLowest_72 : decode cX9_signLowest 72 = .ok (.iload_n 3, 1) := by decide +kernel
theorem dX9_signLowest_73 : decode cX9_signLowest 73 = .ok (.ishl, 1) := by decide +kernel
theorem dX9_signLowest_74 : decode cX9_signLowest 74 = .ok (.ior, 1) := by decide +kernel
theorem dX9_signLowest_75 : decode cX9_signLowest 75 = .ok (.iastore, 1) := by decide +kernel
theorem dX9_signLowest_76 : decode cX9_signLowest 76 = .ok (.return_, 1) := by decide +kernel
theorem dX9_signLowest_77 : decode cX9_signLowest 77 = .ok (.iinc 3 1, 3) := by decide +kernel
theorem dX9_signLowest_80 : decode cX9_signLowest 80 = .ok (.goto (-78), 3) := by decide +kernel
theorem dX9_signLowest_83 : decode cX9_signLowest 83 = .ok (.return_, 1) := by decide +kernel
set_option maxRecDepth 20000 in
theorem ggX9_cool_X9_placeOf : GoodIn wsX9_cool wsX9_placeOf := goodIn_r _ [11] rfl rfl
set_option maxRecDepth 20000 in
theorem gX9_cool_X9_placeOf : GoodIn wsX9_cool (va_wsS RX9 50 yX9_placeOf wsX9_placeOf) := goodIn_app (goodIn_r _ [8, 9, 10] rfl rfl) ggX9_cool_X9_placeOf
theorem dX9_cool_0 : decode cX9_cool 0 = .ok (.iconst 0, 1) := by decide +kernel
theorem dX9_cool_1 : decode cX9_cool 1 = .ok (.istore_n 1, 1) := by decide +kernel
theorem dX9_cool_2 : decode cX9_cool 2 = .ok (.iload_n 1, 1) := by decide +kernel
theorem dX9_cool_3 : decode cX9_cool 3 = .ok (.aload_n 0, 1) := by decide +kernel
theorem dX9_cool_4 : decode cX9_cool 4 = .ok (.getfield 15, 3) := by decide +kernel
theorem dX9_cool_7 : decode cX9_cool 7 = .ok (.getfield 102, 3) := by decide +kernel
theorem dX9_cool_10 : decode cX9_cool 10 = .ok (.if_icmp .ge 68, 3) := by decide +kernel
theorem dX9_cool_13 : decode cX9_cool 13 = .ok (.iload_n 1, 1) := by decide +kernel
theorem dX9_cool_14 : decode cX9_cool 14 = .ok (.iconst 1, 1) := by decide +kernel
theorem dX9_cool_15 : decode cX9_cool 15 = .ok (.iadd, 1) := by decide +kernel
theorem dX9_cool_16 : decode cX9_cool 16 = .ok (.istore_n 2, 1) := by decide +kernel
theorem dX9_cool_17 : decode cX9_cool 17 = .ok (.iload_n 2, 1) := by decide +kernel
theorem dX9_cool_18 : decode cX9_cool 18 = .ok (.aload_n 0, 1) := by decide +kernel
theorem dX9_cool_19 : decode cX9_cool 19 = .ok (.getfield 15, 3) := by decide +kernel
theorem dX9_cool_22 : decode cX9_cool 22 = .ok (.getfield 102, 3) := by decide +kernel
theorem dX9_cool_25 : decode cX9_cool 25 = .ok (.if_icmp .ge 47, 3) := by decide +kernel
theorem dX9_cool_28 : decode cX9_cool 28 = .ok (.iload_n 1, 1) := by decide +kernel
theorem dX9_cool_29 : decode cX9_cool 29 = .ok (.iload_n 2, 1) := by decide +kernel
theorem dX9_cool_30 : decode cX9_cool 30 = .ok (.invokestatic 50, 3) := by decide +kernel
theorem dX9_cool_33 : decode cX9_cool 33 = .ok (.istore_n 3, 1) := by decide +kernel
theorem dX9_cool_34 : decode cX9_cool 34 = .ok (.aload_n 0, 1) := by decide +kernel
theorem dX9_cool_35 : decode cX9_cool 35 = .ok (.getfield 11, 3) := by decide +kernel
theorem dX9_cool_38 : decode cX9_cool 38 = .ok (.bipush 54, 2) := by decide +kernel
theorem dX9_cool_40 : decode cX9_cool 40 = .ok (.iload_n 1, 1) := by decide +kernel
theorem dX9_cool_41 : decode cX9_cool 41 = .ok (.iadd, 1) := by decide +kernel
theorem dX9_cool_42 : decode cX9_cool 42 = .ok (.iaload, 1) := by decide +kernel
theorem dX9_cool_43 : decode cX9_cool 43 = .ok (.iload_n 2, 1) := by decide +kernel
theorem dX9_cool_44 : decode cX9_cool 44 = .ok (.if_icmp .eq 22, 3) := by decide +kernel
theorem dX9_cool_47 : decode cX9_cool 47 = .ok (.aload_n 0, 1) := by decide +kernel
theorem dX9_cool_48 : decode cX9_cool 48 = .ok (.getfield 11, 3) := by decide +kernel
theorem dX9_cool_51 : decode cX9_cool 51 = .ok (.iload_n 3, 1) := by decide +kernel
theorem dX9_cool_52 : decode cX9_cool 52 = .ok (.iaload, 1) := by decide +kernel
theorem dX9_cool_53 : decode cX9_cool 53 = .ok (.ifCond .le 13, 3) := by decide +kernel
theorem dX9_cool_56 : decode cX9_cool 56 = .ok (.aload_n 0, 1) := by decide +kernel
theorem dX9_cool_57 : decode cX9_cool 57 = .ok (.getfield 11, 3) := by decide +kernel
theorem dX9_cool_60 : decode cX9_cool 60 = .ok (.iload_n 3, 1) := by decide +kernel
theorem dX9_cool_61 : decode cX9_cool 61 = .ok (.dup2, 1) := by decide +kernel
theorem dX9_cool_62 : decode cX9_cool 62 = .ok (.iaload, 1) := by decide +kernel
theorem dX9_cool_63 : decode cX9_cool 63 = .ok (.iconst 1, 1) := by decide +kernel
theorem dX9_cool_64 : decode cX9_cool 64 = .ok (.isub, 1) := by decide +kernel
theorem dX9_cool_65 : decode cX9_cool 65 = .ok (.iastore, 1) := by decide +kernel
theorem dX9_cool_66 : decode cX9_cool 66 = .ok (.iinc 2 1, 3) := by decide +kernel
theorem dX9_cool_69 : decode cX9_cool 69 = .ok (.goto (-52), 3) := by decide +kernel
theorem dX9_cool_72 : decode cX9_cool 72 = .ok (.iinc 1 1, 3) := by decide +kernel
theorem dX9_cool_75 : decode cX9_cool 75 = .ok (.goto (-73), 3) := by decide +kernel
theorem dX9_cool_78 : decode cX9_cool 78 = .ok (.aload_n 0, 1) := by decide +kernel
theorem dX9_cool_79 : decode cX9_cool 79 = .ok (.getfield 11, 3) := by decide +kernel
theorem dX9_cool_82 : decode cX9_cool 82 = .ok (.bipush 67, 2) := by decide +kernel
theorem dX9_cool_84 : decode cX9_cool 84 = .ok (.sipush 999, 3) := by decide +kernel
theorem dX9_cool_87 : decode cX9_cool 87 = .ok (.aload_n 0, 1) := by decide +kernel
theorem dX9_cool_88 : decode cX9_cool 88 = .ok (.getfield 11, 3) := by decide +kernel
theorem dX9_cool_91 : decode cX9_cool 91 = .ok (.bipush 67, 2) := by decide +kernel
theorem dX9_cool_93 : decode cX9_cool 93 = .ok (.iaload, 1) := by decide +kernel
theorem dX9_cool_94 : decode cX9_cool 94 = .ok (.iconst 2, 1) := by decide +kernel
theorem dX9_cool_95 : decode cX9_cool 95 = .ok (.iadd, 1) := by decide +kernel
theorem dX9_cool_96 : decode cX9_cool 96 = .ok (.invokestatic 44, 3) := by decide +kernel
theorem dX9_cool_99 : decode cX9_cool 99 = .ok (.iastore, 1) := by decide +kernel
theorem dX9_cool_100 : decode cX9_cool 100 = .ok (.return_, 1) := by decide +kernel
theorem dX9_dawn_0 : decode cX9_dawn 0 = .ok (.iconst 0, 1) := by decide +kernel
theorem dX9_dawn_1 : decode cX9_dawn 1 = .ok (.istore_n 1, 1) := by decide +kernel
theorem dX9_dawn_2 : decode cX9_dawn 2 = .ok (.iload_n 1, 1) := by decide +kernel
theorem dX9_dawn_3 : decode cX9_dawn 3 = .ok (.bipush 6, 2) := by decide +kernel
theorem dX9_dawn_5 : decode cX9_dawn 5 = .ok (.if_icmp .ge 19, 3) := by decide +kernel
theorem dX9_dawn_8 : decode cX9_dawn 8 = .ok (.aload_n 0, 1) := by decide +kernel
theorem dX9_dawn_9 : decode cX9_dawn 9 = .ok (.getfield 11, 3) := by decide +kernel
theorem dX9_dawn_12 : decode cX9_dawn 12 = .ok (.bipush 54, 2) := by decide +kernel
theorem dX9_dawn_14 : decode cX9_dawn 14 = .ok (.iload_n 1, 1) := by decide +kernel
theorem dX9_dawn_15 : decode cX9_dawn 15 = .ok (.iadd, 1) := by decide +kernel
theorem dX9_dawn_16 : decode cX9_dawn 16 = .ok (.iconst (-1), 1) := by decide +kernel
theorem dX9_dawn_17 : decode cX9_dawn 17 = .ok (.iastore, 1) := by decide +kernel
theorem dX9_dawn_18 : decode cX9_dawn 18 = .ok (.iinc 1 1, 3) := by decide +kernel
theorem dX9_dawn_21 : decode cX9_dawn 21 = .ok (.goto (-19), 3) := by decide +kernel
theorem dX9_dawn_24 : decode cX9_dawn 24 = .ok (.aload_n 0, 1) := by decide +kernel
theorem dX9_dawn_25 : decode cX9_dawn 25 = .ok (.getfield 11, 3) := by decide +kernel
theorem dX9_dawn_28 : decode cX9_dawn 28 = .ok (.bipush 65, 2) := by decide +kernel
theorem dX9_dawn_30 : decode cX9_dawn 30 = .ok (.iconst 0, 1) := by decide +kernel
theorem dX9_dawn_31 : decode cX9_dawn 31 = .ok (.iastore, 1) := by decide +kernel
theorem dX9_dawn_32 : decode cX9_dawn 32 = .ok (.aload_n 0, 1) := by decide +kernel
theorem dX9_dawn_33 : decode cX9_dawn 33 = .ok (.getfield 11, 3) := by decide +kernel
theorem dX9_dawn_36 : decode cX9_dawn 36 = .ok (.bipush 68, 2) := by decide +kernel
theorem dX9_dawn_38 : decode cX9_dawn 38 = .ok (.dup2, 1) := by decide +kernel
theorem dX9_dawn_39 : decode cX9_dawn 39 = .ok (.iaload, 1) := by decide +kernel
theorem dX9_dawn_40 : decode cX9_dawn 40 = .ok (.iconst 1, 1) := by decide +kernel
theorem dX9_dawn_41 : decode cX9_dawn 41 = .ok (.iadd, 1) := by decide +kernel
theorem dX9_dawn_42 : decode cX9_dawn 42 = .ok (.iastore, 1) := by decide +kernel
theorem dX9_dawn_43 : decode cX9_dawn 43 = .ok (.return_, 1) := by decide +kernel
set_option maxRecDepth 20000 in
theorem ggX9_allKnown_X9_knows : GoodIn wsX9_allKnown wsX9_knows := goodIn_r _ [7, 8, 9, 10, 11] rfl rfl
set_option maxRecDepth 20000 in
theorem gX9_allKnown_X9_knows : GoodIn wsX9_allKnown (wsV RX9 86 RX9 yX9_knows wsX9_knows) := goodIn_app (goodIn_r _ [3, 4, 5, 6] rfl rfl) ggX9_allKnown_X9_knows
theorem dX9_allKnown_0 : decode cX9_allKnown 0 = .ok (.iconst 0, 1) := by decide +kernel
theorem dX9_allKnown_1 : decode cX9_allKnown 1 = .ok (.istore_n 1, 1) := by decide +kernel
theorem dX9_allKnown_2 : decode cX9_allKnown 2 = .ok (.iload_n 1, 1) := by decide +kernel
theorem dX9_allKnown_3 : decode cX9_allKnown 3 = .ok (.aload_n 0, 1) := by decide +kernel
theorem dX9_allKnown_4 : decode cX9_allKnown 4 = .ok (.getfield 15, 3) := by decide +kernel
theorem dX9_allKnown_7 : decode cX9_allKnown 7 = .ok (.getfield 102, 3) := by decide +kernel
theorem dX9_allKnown_10 : decode cX9_allKnown 10 = .ok (.if_icmp .ge 30, 3) := by decide +kernel
theorem dX9_allKnown_13 : decode cX9_allKnown 13 = .ok (.aload_n 0, 1) := by decide +kernel
theorem dX9_allKnown_14 : decode cX9_allKnown 14 = .ok (.iload_n 1, 1) := by decide +kernel
theorem dX9_allKnown_15 : decode cX9_allKnown 15 = .ok (.invokevirtual 86, 3) := by decide +kernel
theorem dX9_allKnown_18 : decode cX9_allKnown 18 = .ok (.iconst 1, 1) := by decide +kernel
theorem dX9_allKnown_19 : decode cX9_allKnown 19 = .ok (.aload_n 0, 1) := by decide +kernel
theorem dX9_allKnown_20 : decode cX9_allKnown 20 = .ok (.getfield 15, 3) := by decide +kernel
theorem dX9_allKnown_23 : decode cX9_allKnown 23 = .ok (.getfield 102, 3) := by decide +kernel
theorem dX9_allKnown_26 : decode cX9_allKnown 26 = .ok (.ishl, 1) := by decide +kernel
theorem dX9_allKnown_27 : decode cX9_allKnown 27 = .ok (.iconst 1, 1) := by decide +kernel
theorem dX9_allKnown_28 : decode cX9_allKnown 28 = .ok (.isub, 1) := by decide +kernel
theorem dX9_allKnown_29 : decode cX9_allKnown 29 = .ok (.if_icmp .eq 5, 3) := by decide +kernel
theorem dX9_allKnown_32 : decode cX9_allKnown 32 = .ok (.iconst 0, 1) := by decide +kernel
theorem dX9_allKnown_33 : decode cX9_allKnown 33 = .ok (.ireturn, 1) := by decide +kernel
theorem dX9_allKnown_34 : decode cX9_allKnown 34 = .ok (.iinc 1 1, 3) := by decide +kernel
theorem dX9_allKnown_37 : decode cX9_allKnown 37 = .ok (.goto (-35), 3) := by decide +kernel
theorem dX9_allKnown_40 : decode cX9_allKnown 40 = .ok (.iconst 1, 1) := by decide +kernel
theorem dX9_allKnown_41 : decode cX9_allKnown 41 = .ok (.ireturn, 1) := by decide +kernel
set_option maxRecDepth 20000 in
theorem ggX9_gains_X5_hasGlove : GoodIn wsX9_gains wsX5_hasGlove := goodIn_r _ [6, 7, 81, 82, 83, 84, 85, 86, 87, 88, 89, 90] rfl rfl
set_option maxRecDepth 20000 in
theorem gX9_gains_X5_hasGlove : GoodIn wsX9_gains (wsV RX9 105 RX5 yX5_hasGlove wsX5_hasGlove) := goodIn_app (goodIn_r _ [2, 3, 4, 5] rfl rfl) ggX9_gains_X5_hasGlove
set_option maxRecDepth 20000 in
theorem ggX9_gains_X9_riseOf : GoodIn wsX9_gains wsX9_riseOf := goodIn_r _ [12, 13, 14, 15, 11, 16, 17, 18, 19, 20, 21, 22, 23, 24, 25, 26, 27, 28, 29, 1, 30, 31, 32, 33, 34, 35, 36, 37, 38, 39, 40, 5, 41, 42, 43, 44, 45, 46, 47, 48, 49, 50, 51, 52, 53, 54, 55, 56, 57, 58, 59, 60, 61, 62, 63, 64, 65, 66, 67, 68, 69, 70, 71, 72, 73, 74, 75, 76, 77, 78, 79, 80, 81, 82, 83, 84, 85, 86, 87, 88, 89, 90, 91, 92, 93, 94, 95, 96] rfl rfl
set_option maxRecDepth 20000 in
theorem gX9_gains_X9_riseOf : GoodIn wsX9_gains (wsV RX9 109 RX9 yX9_riseOf wsX9_riseOf) := goodIn_app (goodIn_r _ [8, 9, 10, 11] rfl rfl) ggX9_gains_X9_riseOf
set_option maxRecDepth 20000 in
theorem ggX9_gains_X9_free : GoodIn wsX9_gains wsX9_free := goodIn_r _ [33, 17, 78, 79, 80] rfl rfl
set_option maxRecDepth 20000 in
theorem gX9_gains_X9_free : GoodIn wsX9_gains (wsV RX9 64 RX9 yX9_free wsX9_free) := goodIn_app (goodIn_r _ [30, 31, 32, 11] rfl rfl) ggX9_gains_X9_free
theorem dX9_gains_0 : decode cX9_gains 0 = .ok (.aload_n 0, 1) := by decide +kernel
theorem dX9_gains_1 : decode cX9_gains 1 = .ok (.getfield 15, 3) := by decide +kernel
theorem dX9_gains_4 : decode cX9_gains 4 = .ok (.iload_n 1, 1) := by decide +kernel
theorem dX9_gains_5 : decode cX9_gains 5 = .ok (.invokevirtual 105, 3) := by decide +kernel
theorem dX9_gains_8 : decode cX9_gains 8 = .ok (.ifCond .ne 6, 3) := by decide +kernel
theorem dX9_gains_11 : decode cX9_gains 11 = .ok (.bipush (-20), 2) := by decide +kernel
theorem dX9_gains_13 : decode cX9_gains 13 = .ok (.ireturn, 1) := by decide +kernel
theorem dX9_gains_14 : decode cX9_gains 14 = .ok (.aload_n 0, 1) := by decide +kernel
theorem dX9_gains_15 : decode cX9_gains 15 = .ok (.getfield 15, 3) := by decide +kernel
theorem dX9_gains_18 : decode cX9_gains 18 = .ok (.iload_n 2, 1) := by decide +kernel
theorem dX9_gains_19 : decode cX9_gains 19 = .ok (.invokevirtual 105, 3) := by decide +kernel
theorem dX9_gains_22 : decode cX9_gains 22 = .ok (.ifCond .eq 20, 3) := by decide +kernel
theorem dX9_gains_25 : decode cX9_gains 25 = .ok (.aload_n 0, 1) := by decide +kernel
theorem dX9_gains_26 : decode cX9_gains 26 = .ok (.iload_n 1, 1) := by decide +kernel
theorem dX9_gains_27 : decode cX9_gains 27 = .ok (.iload_n 2, 1) := by decide +kernel
theorem dX9_gains_28 : decode cX9_gains 28 = .ok (.invokevirtual 109, 3) := by decide +kernel
theorem dX9_gains_31 : decode cX9_gains 31 = .ok (.aload_n 0, 1) := by decide +kernel
theorem dX9_gains_32 : decode cX9_gains 32 = .ok (.iload_n 1, 1) := by decide +kernel
theorem dX9_gains_33 : decode cX9_gains 33 = .ok (.invokevirtual 64, 3) := by decide +kernel
theorem dX9_gains_36 : decode cX9_gains 36 = .ok (.iconst 3, 1) := by decide +kernel
theorem dX9_gains_37 : decode cX9_gains 37 = .ok (.idiv, 1) := by decide +kernel
theorem dX9_gains_38 : decode cX9_gains 38 = .ok (.isub, 1) := by decide +kernel
theorem dX9_gains_39 : decode cX9_gains 39 = .ok (.goto 4, 3) := by decide +kernel
theorem dX9_gains_42 : decode cX9_gains 42 = .ok (.iconst 0, 1) := by decide +kernel
theorem dX9_gains_43 : decode cX9_gains 43 = .ok (.ireturn, 1) := by decide +kernel
set_option maxRecDepth 20000 in
theorem ggX9_freeOf_X9_free : GoodIn wsX9_freeOf wsX9_free := goodIn_r _ [8, 9, 10, 11, 12] rfl rfl
set_option maxRecDepth 20000 in
theorem gX9_freeOf_X9_free : GoodIn wsX9_freeOf (wsV RX9 64 RX9 yX9_free wsX9_free) := goodIn_app (goodIn_r _ [4, 5, 6, 7] rfl rfl) ggX9_freeOf_X9_free
theorem dX9_freeOf_0 : decode cX9_freeOf 0 = .ok (.iconst 0, 1) := by decide +kernel
theorem dX9_freeOf_1 : decode cX9_freeOf 1 = .ok (.istore_n 2, 1) := by decide +kernel
theorem dX9_freeOf_2 : decode cX9_freeOf 2 = .ok (.iconst 0, 1) := by decide +kernel
theorem dX9_freeOf_3 : decode cX9_freeOf 3 = .ok (.istore_n 3, 1) := by decide +kernel
theorem dX9_freeOf_4 : decode cX9_freeOf 4 = .ok (.iload_n 3, 1) := by decide +kernel
theorem dX9_freeOf_5 : decode cX9_freeOf 5 = .ok (.aload_n 0, 1) := by decide +kernel
theorem dX9_freeOf_6 : decode cX9_freeOf 6 = .ok (.getfield 15, 3) := by decide +kernel
theorem dX9_freeOf_9 : decode cX9_freeOf 9 = .ok (.getfield 102, 3) := by decide +kernel
theorem dX9_freeOf_12 : decode cX9_freeOf 12 = .ok (.if_icmp .ge 30, 3) := by decide +kernel
theorem dX9_freeOf_15 : decode cX9_freeOf 15 = .ok (.aload_n 0, 1) := by decide +kernel
theorem dX9_freeOf_16 : decode cX9_freeOf 16 = .ok (.getfield 15, 3) := by decide +kernel
theorem dX9_freeOf_19 : decode cX9_freeOf 19 = .ok (.getfield 112, 3) := by decide +kernel
theorem dX9_freeOf_22 : decode cX9_freeOf 22 = .ok (.iload_n 3, 1) := by decide +kernel
theorem dX9_freeOf_23 : decode cX9_freeOf 23 = .ok (.iaload, 1) := by decide +kernel
theorem dX9_freeOf_24 : decode cX9_freeOf 24 = .ok (.iload_n 1, 1) := by decide +kernel
theorem dX9_freeOf_25 : decode cX9_freeOf 25 = .ok (.if_icmp .ne 11, 3) := by decide +kernel
theorem dX9_freeOf_28 : decode cX9_freeOf 28 = .ok (.iload_n 2, 1) := by decide +kernel
theorem dX9_freeOf_29 : decode cX9_freeOf 29 = .ok (.aload_n 0, 1) := by decide +kernel
theorem dX9_freeOf_30 : decode cX9_freeOf 30 = .ok (.iload_n 3, 1) := by decide +kernel
theorem dX9_freeOf_31 : decode cX9_freeOf 31 = .ok (.invokevirtual 64, 3) := by decide +kernel
theorem dX9_freeOf_34 : decode cX9_freeOf 34 = .ok (.iadd, 1) := by decide +kernel
theorem dX9_freeOf_35 : decode cX9_freeOf 35 = .ok (.istore_n 2, 1) := by decide +kernel
theorem dX9_freeOf_36 : decode cX9_freeOf 36 = .ok (.iinc 3 1, 3) := by decide +kernel
theorem dX9_freeOf_39 : decode cX9_freeOf 39 = .ok (.goto (-35), 3) := by decide +kernel
theorem dX9_freeOf_42 : decode cX9_freeOf 42 = .ok (.iload_n 2, 1) := by decide +kernel
theorem dX9_freeOf_43 : decode cX9_freeOf 43 = .ok (.ireturn, 1) := by decide +kernel
theorem dX9_warmthOfAll_0 : decode cX9_warmthOfAll 0 = .ok (.iconst 0, 1) := by decide +kernel
theorem dX9_warmthOfAll_1 : decode cX9_warmthOfAll 1 = .ok (.istore_n 1, 1) := by decide +kernel
theorem dX9_warmthOfAll_2 : decode cX9_warmthOfAll 2 = .ok (.iconst 0, 1) := by decide +kernel
theorem dX9_warmthOfAll_3 : decode cX9_warmthOfAll 3 = .ok (.istore_n 2, 1) := by decide +kernel
theorem dX9_warmthOfAll_4 : decode cX9_warmthOfAll 4 = .ok (.iload_n 2, 1) := by decide +kernel
theorem dX9_warmthOfAll_5 : decode cX9_warmthOfAll 5 = .ok (.bipush 36, 2) := by decide +kernel
theorem dX9_warmthOfAll_7 : decode cX9_warmthOfAll 7 = .ok (.if_icmp .ge 18, 3) := by decide +kernel
theorem dX9_warmthOfAll_10 : decode cX9_warmthOfAll 10 = .ok (.iload_n 1, 1) := by decide +kernel
theorem dX9_warmthOfAll_11 : decode cX9_warmthOfAll 11 = .ok (.aload_n 0, 1) := by decide +kernel
theorem dX9_warmthOfAll_12 : decode cX9_warmthOfAll 12 = .ok (.getfield 11, 3) := by decide +kernel
theorem dX9_warmthOfAll_15 : decode cX9_warmthOfAll 15 = .ok (.iload_n 2, 1) := by decide +kernel
theorem dX9_warmthOfAll_16 : decode cX9_warmthOfAll 16 = .ok (.iaload, 1) := by decide +kernel
theorem dX9_warmthOfAll_17 : decode cX9_warmthOfAll 17 = .ok (.iadd, 1) := by decide +kernel
theorem dX9_warmthOfAll_18 : decode cX9_warmthOfAll 18 = .ok (.istore_n 1, 1) := by decide +kernel
theorem dX9_warmthOfAll_19 : decode cX9_warmthOfAll 19 = .ok (.iinc 2 1, 3) := by decide +kernel
theorem dX9_warmthOfAll_22 : decode cX9_warmthOfAll 22 = .ok (.goto (-18), 3) := by decide +kernel
theorem dX9_warmthOfAll_25 : decode cX9_warmthOfAll 25 = .ok (.iload_n 1, 1) := by decide +kernel
theorem dX9_warmthOfAll_26 : decode cX9_warmthOfAll 26 = .ok (.ireturn, 1) := by decide +kernel
set_option maxRecDepth 20000 in
theorem ggX9_metBits_X9_hasMet : GoodIn wsX9_metBits wsX9_hasMet := goodIn_r _ [7, 8, 9, 10, 11] rfl rfl
set_option maxRecDepth 20000 in
theorem gX9_metBits_X9_hasMet : GoodIn wsX9_metBits (wsV RX9 115 RX9 yX9_hasMet wsX9_hasMet) := goodIn_app (goodIn_r _ [3, 4, 5, 6] rfl rfl) ggX9_metBits_X9_hasMet
theorem dX9_metBits_0 : decode cX9_metBits 0 = .ok (.iconst 0, 1) := by decide +kernel
theorem dX9_metBits_1 : decode cX9_metBits 1 = .ok (.istore_n 1, 1) := by decide +kernel
theorem dX9_metBits_2 : decode cX9_metBits 2 = .ok (.iconst 0, 1) := by decide +kernel
theorem dX9_metBits_3 : decode cX9_metBits 3 = .ok (.istore_n 2, 1) := by decide +kernel
theorem dX9_metBits_4 : decode cX9_metBits 4 = .ok (.iload_n 2, 1) := by decide +kernel
theorem dX9_metBits_5 : decode cX9_metBits 5 = .ok (.aload_n 0, 1) := by decide +kernel
theorem dX9_metBits_6 : decode cX9_metBits 6 = .ok (.getfield 15, 3) := by decide +kernel
theorem dX9_metBits_9 : decode cX9_metBits 9 = .ok (.getfield 102, 3) := by decide +kernel
theorem dX9_metBits_12 : decode cX9_metBits 12 = .ok (.if_icmp .ge 23, 3) := by decide +kernel
theorem dX9_metBits_15 : decode cX9_metBits 15 = .ok (.aload_n 0, 1) := by decide +kernel
theorem dX9_metBits_16 : decode cX9_metBits 16 = .ok (.iload_n 2, 1) := by decide +kernel
theorem dX9_metBits_17 : decode cX9_metBits 17 = .ok (.invokevirtual 115, 3) := by decide +kernel
theorem dX9_metBits_20 : decode cX9_metBits 20 = .ok (.ifCond .eq 9, 3) := by decide +kernel
theorem dX9_metBits_23 : decode cX9_metBits 23 = .ok (.iload_n 1, 1) := by decide +kernel
theorem dX9_metBits_24 : decode cX9_metBits 24 = .ok (.iconst 1, 1) := by decide +kernel
theorem dX9_metBits_25 : decode cX9_metBits 25 = .ok (.iload_n 2, 1) := by decide +kernel
theorem dX9_metBits_26 : decode cX9_metBits 26 = .ok (.ishl, 1) := by decide +kernel
theorem dX9_metBits_27 : decode cX9_metBits 27 = .ok (.ior, 1) := by decide +kernel
theorem dX9_metBits_28 : decode cX9_metBits 28 = .ok (.istore_n 1, 1) := by decide +kernel
theorem dX9_metBits_29 : decode cX9_metBits 29 = .ok (.iinc 2 1, 3) := by decide +kernel
theorem dX9_metBits_32 : decode cX9_metBits 32 = .ok (.goto (-28), 3) := by decide +kernel
theorem dX9_metBits_35 : decode cX9_metBits 35 = .ok (.iload_n 1, 1) := by decide +kernel
theorem dX9_metBits_36 : decode cX9_metBits 36 = .ok (.ireturn, 1) := by decide +kernel
set_option maxRecDepth 20000 in
theorem ggX9_signedBits_X9_signers : GoodIn wsX9_signedBits wsX9_signers := goodIn_r _ [7, 8, 9, 10, 11] rfl rfl
set_option maxRecDepth 20000 in
theorem gX9_signedBits_X9_signers : GoodIn wsX9_signedBits (wsV RX9 96 RX9 yX9_signers wsX9_signers) := goodIn_app (goodIn_r _ [3, 4, 5, 6] rfl rfl) ggX9_signedBits_X9_signers
theorem dX9_signedBits_0 : decode cX9_signedBits 0 = .ok (.iconst 0, 1) := by decide +kernel
theorem dX9_signedBits_1 : decode cX9_signedBits 1 = .ok (.istore_n 1, 1) := by decide +kernel
theorem dX9_signedBits_2 : decode cX9_signedBits 2 = .ok (.iconst 0, 1) := by decide +kernel
theorem dX9_signedBits_3 : decode cX9_signedBits 3 = .ok (.istore_n 2, 1) := by decide +kernel
theorem dX9_signedBits_4 : decode cX9_signedBits 4 = .ok (.iload_n 2, 1) := by decide +kernel
theorem dX9_signedBits_5 : decode cX9_signedBits 5 = .ok (.aload_n 0, 1) := by decide +kernel
theorem dX9_signedBits_6 : decode cX9_signedBits 6 = .ok (.getfield 15, 3) := by decide +kernel
theorem dX9_signedBits_9 : decode cX9_signedBits 9 = .ok (.getfield 93, 3) := by decide +kernel
theorem dX9_signedBits_12 : decode cX9_signedBits 12 = .ok (.if_icmp .ge 24, 3) := by decide +kernel
theorem dX9_signedBits_15 : decode cX9_signedBits 15 = .ok (.aload_n 0, 1) := by decide +kernel
theorem dX9_signedBits_16 : decode cX9_signedBits 16 = .ok (.iload_n 2, 1) := by decide +kernel
theorem dX9_signedBits_17 : decode cX9_signedBits 17 = .ok (.invokevirtual 96, 3) := by decide +kernel
theorem dX9_signedBits_20 : decode cX9_signedBits 20 = .ok (.iconst (-1), 1) := by decide +kernel
theorem dX9_signedBits_21 : decode cX9_signedBits 21 = .ok (.if_icmp .eq 9, 3) := by decide +kernel
theorem dX9_signedBits_24 : decode cX9_signedBits 24 = .ok (.iload_n 1, 1) := by decide +kernel
theorem dX9_signedBits_25 : decode cX9_signedBits 25 = .ok (.iconst 1, 1) := by decide +kernel
theorem dX9_signedBits_26 : decode cX9_signedBits 26 = .ok (.iload_n 2, 1) := by decide +kernel
theorem dX9_signedBits_27 : decode cX9_signedBits 27 = .ok (.ishl, 1) := by decide +kernel
theorem dX9_signedBits_28 : decode cX9_signedBits 28 = .ok (.ior, 1) := by decide +kernel
theorem dX9_signedBits_29 : decode cX9_signedBits 29 = .ok (.istore_n 1, 1) := by decide +kernel
theorem dX9_signedBits_30 : decode cX9_signedBits 30 = .ok (.iinc 2 1, 3) := by decide +kernel
theorem dX9_signedBits_33 : decode cX9_signedBits 33 = .ok (.goto (-29), 3) := by decide +kernel
theorem dX9_signedBits_36 : decode cX9_signedBits 36 = .ok (.iload_n 1, 1) := by decide +kernel
theorem dX9_signedBits_37 : decode cX9_signedBits 37 = .ok (.ireturn, 1) := by decide +kernel
set_option maxRecDepth 20000 in
theorem ggX9_warmestPair_X9_pairMost : GoodIn wsX9_warmestPair wsX9_pairMost := goodIn_r _ [5, 6, 7, 8, 9, 10, 11, 12, 13, 14, 15, 16, 17, 18, 19, 20, 21, 4, 22, 23, 24, 25, 26, 27, 28, 29, 30, 31, 32, 33, 34, 35, 36, 37, 38, 39] rfl rfl
set_option maxRecDepth 20000 in
theorem gX9_warmestPair_X9_pairMost : GoodIn wsX9_warmestPair (wsV RX9 118 RX9 yX9_pairMost wsX9_pairMost) := goodIn_app (goodIn_r _ [1, 2, 3, 4] rfl rfl) ggX9_warmestPair_X9_pairMost
theorem dX9_warmestPair_0 : decode cX9_warmestPair 0 = .ok (.aload_n 0, 1) := by decide +kernel
theorem dX9_warmestPair_1 : decode cX9_warmestPair 1 = .ok (.iconst 1, 1) := by decide +kernel
theorem dX9_warmestPair_2 : decode cX9_warmestPair 2 = .ok (.invokevirtual 118, 3) := by decide +kernel
theorem dX9_warmestPair_5 : decode cX9_warmestPair 5 = .ok (.ireturn, 1) := by decide +kernel
set_option maxRecDepth 20000 in
theorem ggX9_coldestPair_X9_pairMost : GoodIn wsX9_coldestPair wsX9_pairMost := goodIn_r _ [5, 6, 7, 8, 9, 10, 11, 12, 13, 14, 15, 16, 17, 18, 19, 20, 21, 4, 22, 23, 24, 25, 26, 27, 28, 29, 30, 31, 32, 33, 34, 35, 36, 37, 38, 39] rfl rfl
set_option maxRecDepth 20000 in
theorem gX9_coldestPair_X9_pairMost : GoodIn wsX9_coldestPair (wsV RX9 118 RX9 yX9_pairMost wsX9_pairMost) := goodIn_app (goodIn_r _ [1, 2, 3, 4] rfl rfl) ggX9_coldestPair_X9_pairMost
theorem dX9_coldestPair_0 : decode cX9_coldestPair 0 = .ok (.aload_n 0, 1) := by decide +kernel
theorem dX9_coldestPair_1 : decode cX9_coldestPair 1 = .ok (.iconst (-1), 1) := by decide +kernel
theorem dX9_coldestPair_2 : decode cX9_coldestPair 2 = .ok (.invokevirtual 118, 3) := by decide +kernel
theorem dX9_coldestPair_5 : decode cX9_coldestPair 5 = .ok (.ireturn, 1) := by decide +kernel
set_option maxRecDepth 20000 in
theorem ggX9_pairMost_X5_unlike : GoodIn wsX9_pairMost wsX5_unlike := goodIn_r _ [7, 8, 9, 10, 11, 6, 12, 13, 26, 27, 28, 29, 30, 31, 32, 33, 34, 35] rfl rfl
set_option maxRecDepth 20000 in
theorem gX9_pairMost_X5_unlike : GoodIn wsX9_pairMost (wsV RX9 121 RX5 yX5_unlike wsX5_unlike) := goodIn_app (goodIn_r _ [3, 4, 5, 6] rfl rfl) ggX9_pairMost_X5_unlike
set_option maxRecDepth 20000 in
theorem ggX9_pairMost_X9_warmthOf : GoodIn wsX9_pairMost wsX9_warmthOf := goodIn_r _ [18, 19, 20, 21, 17, 22, 23, 24, 25] rfl rfl
set_option maxRecDepth 20000 in
theorem gX9_pairMost_X9_warmthOf : GoodIn wsX9_pairMost (wsV RX9 53 RX9 yX9_warmthOf wsX9_warmthOf) := goodIn_app (goodIn_r _ [14, 15, 16, 17] rfl rfl) ggX9_pairMost_X9_warmthOf
theorem dX9_pairMost_0 : decode cX9_pairMost 0 = .ok (.iconst (-1), 1) := by decide +kernel
theorem dX9_pairMost_1 : decode cX9_pairMost 1 = .ok (.istore_n 2, 1) := by decide +kernel
theorem dX9_pairMost_2 : decode cX9_pairMost 2 = .ok (.iconst 0, 1) := by decide +kernel
theorem dX9_pairMost_3 : decode cX9_pairMost 3 = .ok (.istore_n 3, 1) := by decide +kernel
theorem dX9_pairMost_4 : decode cX9_pairMost 4 = .ok (.iload_n 3, 1) := by decide +kernel
theorem dX9_pairMost_5 : decode cX9_pairMost 5 = .ok (.aload_n 0, 1) := by decide +kernel
theorem dX9_pairMost_6 : decode cX9_pairMost 6 = .ok (.getfield 15, 3) := by decide +kernel
theorem dX9_pairMost_9 : decode cX9_pairMost 9 = .ok (.getfield 102, 3) := by decide +kernel
theorem dX9_pairMost_12 : decode cX9_pairMost 12 = .ok (.if_icmp .ge 83, 3) := by decide +kernel
theorem dX9_pairMost_15 : decode cX9_pairMost 15 = .ok (.iload_n 3, 1) := by decide +kernel
theorem dX9_pairMost_16 : decode cX9_pairMost 16 = .ok (.iconst 1, 1) := by decide +kernel
theorem dX9_pairMost_17 : decode cX9_pairMost 17 = .ok (.iadd, 1) := by decide +kernel
theorem dX9_pairMost_18 : decode cX9_pairMost 18 = .ok (.istore 4, 2) := by decide +kernel
theorem dX9_pairMost_20 : decode cX9_pairMost 20 = .ok (.iload 4, 2) := by decide +kernel
theorem dX9_pairMost_22 : decode cX9_pairMost 22 = .ok (.aload_n 0, 1) := by decide +kernel
theorem dX9_pairMost_23 : decode cX9_pairMost 23 = .ok (.getfield 15, 3) := by decide +kernel
theorem dX9_pairMost_26 : decode cX9_pairMost 26 = .ok (.getfield 102, 3) := by decide +kernel
theorem dX9_pairMost_29 : decode cX9_pairMost 29 = .ok (.if_icmp .ge 60, 3) := by decide +kernel
theorem dX9_pairMost_32 : decode cX9_pairMost 32 = .ok (.aload_n 0, 1) := by decide +kernel
theorem dX9_pairMost_33 : decode cX9_pairMost 33 = .ok (.getfield 15, 3) := by decide +kernel
theorem dX9_pairMost_36 : decode cX9_pairMost 36 = .ok (.iload_n 3, 1) := by decide +kernel
theorem dX9_pairMost_37 : decode cX9_pairMost 37 = .ok (.iload 4, 2) := by decide +kernel
theorem dX9_pairMost_39 : decode cX9_pairMost 39 = .ok (.invokevirtual 121, 3) := by decide +kernel
theorem dX9_pairMost_42 : decode cX9_pairMost 42 = .ok (.ifCond .eq 41, 3) := by decide +kernel
theorem dX9_pairMost_45 : decode cX9_pairMost 45 = .ok (.iload_n 2, 1) := by decide +kernel
theorem dX9_pairMost_46 : decode cX9_pairMost 46 = .ok (.iconst (-1), 1) := by decide +kernel
theorem dX9_pairMost_47 : decode cX9_pairMost 47 = .ok (.if_icmp .eq 28, 3) := by decide +kernel
theorem dX9_pairMost_50 : decode cX9_pairMost 50 = .ok (.iload_n 1, 1) := by decide +kernel
theorem dX9_pairMost_51 : decode cX9_pairMost 51 = .ok (.aload_n 0, 1) := by decide +kernel
theorem dX9_pairMost_52 : decode cX9_pairMost 52 = .ok (.iload_n 3, 1) := by decide +kernel
theorem dX9_pairMost_53 : decode cX9_pairMost 53 = .ok (.iload 4, 2) := by decide +kernel
theorem dX9_pairMost_55 : decode cX9_pairMost 55 = .ok (.invokevirtual 53, 3) := by decide +kernel
theorem dX9_pairMost_58 : decode cX9_pairMost 58 = .ok (.aload_n 0, 1) := by decide +kernel
theorem dX9_pairMost_59 : decode cX9_pairMost 59 = .ok (.iload_n 2, 1) := by decide +kernel
theorem dX9_pairMost_60 : decode cX9_pairMost 60 = .ok (.bipush 10, 2) := by decide +kernel
theorem dX9_pairMost_62 : decode cX9_pairMost 62 = .ok (.idiv, 1) := by decide +kernel
theorem dX9_pairMost_63 : decode cX9_pairMost 63 = .ok (.iload_n 2, 1) := by decide +kernel
theorem dX9_pairMost_64 : decode cX9_pairMost 64 = .ok (.bipush 10, 2) := by decide +kernel
theorem dX9_pairMost_66 : decode cX9_pairMost 66 = .ok (.irem, 1) := by decide +kernel
theorem dX9_pairMost_67 : decode cX9_pairMost 67 = .ok (.invokevirtual 53, 3) := by decide +kernel
theorem dX9_pairMost_70 : decode cX9_pairMost 70 = .ok (.isub, 1) := by decide +kernel
theorem dX9_pairMost_71 : decode cX9_pairMost 71 = .ok (.imul, 1) := by decide +kernel
theorem dX9_pairMost_72 : decode cX9_pairMost 72 = .ok (.ifCond .le 11, 3) := by decide +kernel
theorem dX9_pairMost_75 : decode cX9_pairMost 75 = .ok (.bipush 10, 2) := by decide +kernel
theorem dX9_pairMost_77 : decode cX9_pairMost 77 = .ok (.iload_n 3, 1) := by decide +kernel
theorem dX9_pairMost_78 : decode cX9_pairMost 78 = .ok (.imul, 1) := by decide +kernel
theorem dX9_pairMost_79 : decode cX9_pairMost 79 = .ok (.iload 4, 2) := by decide +kernel
theorem dX9_pairMost_81 : decode cX9_pairMost 81 = .ok (.iadd, 1) := by decide +kernel
theorem dX9_pairMost_82 : decode cX9_pairMost 82 = .ok (.istore_n 2, 1) := by decide +kernel
theorem dX9_pairMost_83 : decode cX9_pairMost 83 = .ok (.iinc 4 1, 3) := by decide +kernel
theorem dX9_pairMost_86 : decode cX9_pairMost 86 = .ok (.goto (-66), 3) := by decide +kernel
theorem dX9_pairMost_89 : decode cX9_pairMost 89 = .ok (.iinc 3 1, 3) := by decide +kernel
theorem dX9_pairMost_92 : decode cX9_pairMost 92 = .ok (.goto (-88), 3) := by decide +kernel
theorem dX9_pairMost_95 : decode cX9_pairMost 95 = .ok (.iload_n 2, 1) := by decide +kernel
theorem dX9_pairMost_96 : decode cX9_pairMost 96 = .ok (.ireturn, 1) := by decide +kernel
set_option maxRecDepth 20000 in
theorem ggX9_freest_X9_gloveMost : GoodIn wsX9_freest wsX9_gloveMost := goodIn_r _ [5, 6, 7, 8, 9, 10, 11, 12, 13, 14, 15, 16, 17, 18, 19, 20, 21] rfl rfl
set_option maxRecDepth 20000 in
theorem gX9_freest_X9_gloveMost : GoodIn wsX9_freest (wsV RX9 125 RX9 yX9_gloveMost wsX9_gloveMost) := goodIn_app (goodIn_r _ [1, 2, 3, 4] rfl rfl) ggX9_freest_X9_gloveMost
theorem dX9_freest_0 : decode cX9_freest 0 = .ok (.aload_n 0, 1) := by decide +kernel
theorem dX9_freest_1 : decode cX9_freest 1 = .ok (.bipush 36, 2) := by decide +kernel
theorem dX9_freest_3 : decode cX9_freest 3 = .ok (.invokevirtual 125, 3) := by decide +kernel
theorem dX9_freest_6 : decode cX9_freest 6 = .ok (.ireturn, 1) := by decide +kernel
set_option maxRecDepth 20000 in
theorem ggX9_stiffest_X9_gloveMost : GoodIn wsX9_stiffest wsX9_gloveMost := goodIn_r _ [5, 6, 7, 8, 9, 10, 11, 12, 13, 14, 15, 16, 17, 18, 19, 20, 21] rfl rfl
set_option maxRecDepth 20000 in
theorem gX9_stiffest_X9_gloveMost : GoodIn wsX9_stiffest (wsV RX9 125 RX9 yX9_gloveMost wsX9_gloveMost) := goodIn_app (goodIn_r _ [1, 2, 3, 4] rfl rfl) ggX9_stiffest_X9_gloveMost
theorem dX9_stiffest_0 : decode cX9_stiffest 0 = .ok (.aload_n 0, 1) := by decide +kernel
theorem dX9_stiffest_1 : decode cX9_stiffest 1 = .ok (.bipush 42, 2) := by decide +kernel
theorem dX9_stiffest_3 : decode cX9_stiffest 3 = .ok (.invokevirtual 125, 3) := by decide +kernel
theorem dX9_stiffest_6 : decode cX9_stiffest 6 = .ok (.ireturn, 1) := by decide +kernel
theorem dX9_gloveMost_0 : decode cX9_gloveMost 0 = .ok (.iconst 0, 1) := by decide +kernel
theorem dX9_gloveMost_1 : decode cX9_gloveMost 1 = .ok (.istore_n 2, 1) := by decide +kernel
theorem dX9_gloveMost_2 : decode cX9_gloveMost 2 = .ok (.iconst 1, 1) := by decide +kernel
theorem dX9_gloveMost_3 : decode cX9_gloveMost 3 = .ok (.istore_n 3, 1) := by decide +kernel
theorem dX9_gloveMost_4 : decode cX9_gloveMost 4 = .ok (.iload_n 3, 1) := by decide +kernel
theorem dX9_gloveMost_5 : decode cX9_gloveMost 5 = .ok (.aload_n 0, 1) := by decide +kernel
theorem dX9_gloveMost_6 : decode cX9_gloveMost 6 = .ok (.getfield 15, 3) := by decide +kernel
theorem dX9_gloveMost_9 : decode cX9_gloveMost 9 = .ok (.getfield 102, 3) := by decide +kernel
theorem dX9_gloveMost_12 : decode cX9_gloveMost 12 = .ok (.if_icmp .ge 30, 3) := by decide +kernel
theorem dX9_gloveMost_15 : decode cX9_gloveMost 15 = .ok (.aload_n 0, 1) := by decide +kernel
theorem dX9_gloveMost_16 : decode cX9_gloveMost 16 = .ok (.getfield 11, 3) := by decide +kernel
theorem dX9_gloveMost_19 : decode cX9_gloveMost 19 = .ok (.iload_n 1, 1) := by decide +kernel
theorem dX9_gloveMost_20 : decode cX9_gloveMost 20 = .ok (.iload_n 3, 1) := by decide +kernel
theorem dX9_gloveMost_21 : decode cX9_gloveMost 21 = .ok (.iadd, 1) := by decide +kernel
theorem dX9_gloveMost_22 : decode cX9_gloveMost 22 = .ok (.iaload, 1) := by decide +kernel
theorem dX9_gloveMost_23 : decode cX9_gloveMost 23 = .ok (.aload_n 0, 1) := by decide +kernel
theorem dX9_gloveMost_24 : decode cX9_gloveMost 24 = .ok (.getfield 11, 3) := by decide +kernel
theorem dX9_gloveMost_27 : decode cX9_gloveMost 27 = .ok (.iload_n 1, 1) := by decide +kernel
theorem dX9_gloveMost_28 : decode cX9_gloveMost 28 = .ok (.iload_n 2, 1) := by decide +kernel
theorem dX9_gloveMost_29 : decode cX9_gloveMost 29 = .ok (.iadd, 1) := by decide +kernel
theorem dX9_gloveMost_30 : decode cX9_gloveMost 30 = .ok (.iaload, 1) := by decide +kernel
theorem dX9_gloveMost_31 : decode cX9_gloveMost 31 = .ok (.if_icmp .le 5, 3) := by decide +kernel
theorem dX9_gloveMost_34 : decode cX9_gloveMost 34 = .ok (.iload_n 3, 1) := by decide +kernel
theorem dX9_gloveMost_35 : decode cX9_gloveMost 35 = .ok (.istore_n 2, 1) := by decide +kernel
theorem dX9_gloveMost_36 : decode cX9_gloveMost 36 = .ok (.iinc 3 1, 3) := by decide +kernel
theorem dX9_gloveMost_39 : decode cX9_gloveMost 39 = .ok (.goto (-35), 3) := by decide +kernel
theorem dX9_gloveMost_42 : decode cX9_gloveMost 42 = .ok (.iload_n 2, 1) := by decide +kernel
theorem dX9_gloveMost_43 : decode cX9_gloveMost 43 = .ok (.ireturn, 1) := by decide +kernel
set_option maxRecDepth 20000 in
theorem ggX9_bound_X9_signers : GoodIn wsX9_bound wsX9_signers := goodIn_r _ [8, 9, 10, 11, 12] rfl rfl
set_option maxRecDepth 20000 in
theorem gX9_bound_X9_signers : GoodIn wsX9_bound (wsV RX9 96 RX9 yX9_signers wsX9_signers) := goodIn_app (goodIn_r _ [4, 5, 6, 7] rfl rfl) ggX9_bound_X9_signers
theorem dX9_bound_0 : decode cX9_bound 0 = .ok (.iconst 0, 1) := by decide +kernel
theorem dX9_bound_1 : decode cX9_bound 1 = .ok (.istore_n 1, 1) := by decide +kernel
theorem dX9_bound_2 : decode cX9_bound 2 = .ok (.iconst 0, 1) := by decide +kernel
theorem dX9_bound_3 : decode cX9_bound 3 = .ok (.istore_n 2, 1) := by decide +kernel
theorem dX9_bound_4 : decode cX9_bound 4 = .ok (.iload_n 2, 1) := by decide +kernel
theorem dX9_bound_5 : decode cX9_bound 5 = .ok (.aload_n 0, 1) := by decide +kernel
theorem dX9_bound_6 : decode cX9_bound 6 = .ok (.getfield 15, 3) := by decide +kernel
theorem dX9_bound_9 : decode cX9_bound 9 = .ok (.getfield 93, 3) := by decide +kernel
theorem dX9_bound_12 : decode cX9_bound 12 = .ok (.if_icmp .ge 30, 3) := by decide +kernel
theorem dX9_bound_15 : decode cX9_bound 15 = .ok (.aload_n 0, 1) := by decide +kernel
theorem dX9_bound_16 : decode cX9_bound 16 = .ok (.iload_n 2, 1) := by decide +kernel
theorem dX9_bound_17 : decode cX9_bound 17 = .ok (.invokevirtual 96, 3) := by decide +kernel
theorem dX9_bound_20 : decode cX9_bound 20 = .ok (.iconst (-1), 1) := by decide +kernel
theorem dX9_bound_21 : decode cX9_bound 21 = .ok (.if_icmp .eq 15, 3) := by decide +kernel
theorem dX9_bound_24 : decode cX9_bound 24 = .ok (.iload_n 1, 1) := by decide +kernel
theorem dX9_bound_25 : decode cX9_bound 25 = .ok (.aload_n 0, 1) := by decide +kernel
theorem dX9_bound_26 : decode cX9_bound 26 = .ok (.getfield 15, 3) := by decide +kernel
theorem dX9_bound_29 : decode cX9_bound 29 = .ok (.getfield 128, 3) := by decide +kernel
theorem dX9_bound_32 : decode cX9_bound 32 = .ok (.iload_n 2, 1) := by decide +kernel
theorem dX9_bound_33 : decode cX9_bound 33 = .ok (.iaload, 1) := by decide +kernel
theorem dX9_bound_34 : decode cX9_bound 34 = .ok (.iadd, 1) := by decide +kernel
theorem dX9_bound_35 : decode cX9_bound 35 = .ok (.istore_n 1, 1) := by decide +kernel
theorem dX9_bound_36 : decode cX9_bound 36 = .ok (.iinc 2 1, 3) := by decide +kernel
theorem dX9_bound_39 : decode cX9_bound 39 = .ok (.goto (-35), 3) := by decide +kernel
theorem dX9_bound_42 : decode cX9_bound 42 = .ok (.iload_n 1, 1) := by decide +kernel
theorem dX9_bound_43 : decode cX9_bound 43 = .ok (.ireturn, 1) := by decide +kernel
set_option maxRecDepth 20000 in
theorem ggX9_dueBits_X9_warmestPair : GoodIn wsX9_dueBits wsX9_warmestPair := goodIn_r _ [8, 9, 10, 11, 7, 12, 1, 13, 14, 15, 16, 17, 18, 19, 20, 21, 22, 23, 24, 25, 26, 27, 28, 29, 30, 31, 32, 37, 38, 39, 40, 41, 42, 43, 44, 45, 46, 47, 48, 49] rfl rfl
set_option maxRecDepth 20000 in
theorem gX9_dueBits_X9_warmestPair : GoodIn wsX9_dueBits (wsV RX9 131 RX9 yX9_warmestPair wsX9_warmestPair) := goodIn_app (goodIn_r _ [4, 5, 6, 7] rfl rfl) ggX9_dueBits_X9_warmestPair
set_option maxRecDepth 20000 in
theorem ggX9_dueBits_X9_warmthOf : GoodIn wsX9_dueBits wsX9_warmthOf := goodIn_r _ [28, 29, 30, 31, 7, 32, 37, 38, 39] rfl rfl
set_option maxRecDepth 20000 in
theorem gX9_dueBits_X9_warmthOf : GoodIn wsX9_dueBits (wsV RX9 53 RX9 yX9_warmthOf wsX9_warmthOf) := goodIn_app (goodIn_r _ [25, 26, 27, 7] rfl rfl) ggX9_dueBits_X9_warmthOf
set_option maxRecDepth 20000 in
theorem ggX9_dueBits_X9_signers : GoodIn wsX9_dueBits wsX9_signers := goodIn_r _ [36, 29, 37, 38, 39] rfl rfl
set_option maxRecDepth 20000 in
theorem gX9_dueBits_X9_signers : GoodIn wsX9_dueBits (wsV RX9 96 RX9 yX9_signers wsX9_signers) := goodIn_app (goodIn_r _ [33, 34, 35, 7] rfl rfl) ggX9_dueBits_X9_signers
theorem dX9_dueBits_0 : decode cX9_dueBits 0 = .ok (.aload_n 0, 1) := by decide +kernel
theorem dX9_dueBits_1 : decode cX9_dueBits 1 = .ok (.invokevirtual 131, 3) := by decide +kernel
theorem dX9_dueBits_4 : decode cX9_dueBits 4 = .ok (.istore_n 1, 1) := by decide +kernel
theorem dX9_dueBits_5 : decode cX9_dueBits 5 = .ok (.iload_n 1, 1) := by decide +kernel
theorem dX9_dueBits_6 : decode cX9_dueBits 6 = .ok (.iconst (-1), 1) := by decide +kernel
theorem dX9_dueBits_7 : decode cX9_dueBits 7 = .ok (.if_icmp .ne 7, 3) := by decide +kernel
theorem dX9_dueBits_10 : decode cX9_dueBits 10 = .ok (.iconst (-1), 1) := by decide +kernel
theorem dX9_dueBits_11 : decode cX9_dueBits 11 = .ok (.goto 15, 3) := by decide +kernel
theorem dX9_dueBits_14 : decode cX9_dueBits 14 = .ok (.aload_n 0, 1) := by decide +kernel
theorem dX9_dueBits_15 : decode cX9_dueBits 15 = .ok (.iload_n 1, 1) := by decide +kernel
theorem dX9_dueBits_16 : decode cX9_dueBits 16 = .ok (.bipush 10, 2) := by decide +kernel
theorem dX9_dueBits_18 : decode cX9_dueBits 18 = .ok (.idiv, 1) := by decide +kernel
theorem dX9_dueBits_19 : decode cX9_dueBits 19 = .ok (.iload_n 1, 1) := by decide +kernel
theorem dX9_dueBits_20 : decode cX9_dueBits 20 = .ok (.bipush 10, 2) := by decide +kernel
theorem dX9_dueBits_22 : decode cX9_dueBits 22 = .ok (.irem, 1) := by decide +kernel
theorem dX9_dueBits_23 : decode cX9_dueBits 23 = .ok (.invokevirtual 53, 3) := by decide +kernel
theorem dX9_dueBits_26 : decode cX9_dueBits 26 = .ok (.istore_n 2, 1) := by decide +kernel
theorem dX9_dueBits_27 : decode cX9_dueBits 27 = .ok (.iconst 0, 1) := by decide +kernel
theorem dX9_dueBits_28 : decode cX9_dueBits 28 = .ok (.istore_n 3, 1) := by decide +kernel
theorem dX9_dueBits_29 : decode cX9_dueBits 29 = .ok (.iconst 0, 1) := by decide +kernel
theorem dX9_dueBits_30 : decode cX9_dueBits 30 = .ok (.istore 4, 2) := by decide +kernel
theorem dX9_dueBits_32 : decode cX9_dueBits 32 = .ok (.iload 4, 2) := by decide +kernel
theorem dX9_dueBits_34 : decode cX9_dueBits 34 = .ok (.aload_n 0, 1) := by decide +kernel
theorem dX9_dueBits_35 : decode cX9_dueBits 35 = .ok (.getfield 15, 3) := by decide +kernel
theorem dX9_dueBits_38 : decode cX9_dueBits 38 = .ok (.getfield 93, 3) := by decide +kernel
theorem dX9_dueBits_41 : decode cX9_dueBits 41 = .ok (.if_icmp .ge 40, 3) := by decide +kernel
theorem dX9_dueBits_44 : decode cX9_dueBits 44 = .ok (.aload_n 0, 1) := by decide +kernel
theorem dX9_dueBits_45 : decode cX9_dueBits 45 = .ok (.iload 4, 2) := by decide +kernel
theorem dX9_dueBits_47 : decode cX9_dueBits 47 = .ok (.invokevirtual 96, 3) := by decide +kernel
theorem dX9_dueBits_50 : decode cX9_dueBits 50 = .ok (.iconst (-1), 1) := by decide +kernel
theorem dX9_dueBits_51 : decode cX9_dueBits 51 = .ok (.if_icmp .ne 24, 3) := by decide +kernel
theorem dX9_dueBits_54 : decode cX9_dueBits 54 = .ok (.iload_n 2, 1) := by decide +kernel
theorem dX9_dueBits_55 : decode cX9_dueBits 55 = .ok (.aload_n 0, 1) := by decide +kernel
theorem dX9_dueBits_56 : decode cX9_dueBits 56 = .ok (.getfield 15, 3) := by decide +kernel
theorem dX9_dueBits_59 : decode cX9_dueBits 59 = .ok (.getfield 99, 3) := by decide +kernel
theorem dX9_dueBits_62 : decode cX9_dueBits 62 = .ok (.iload 4, 2) := by decide +kernel
theorem dX9_dueBits_64 : decode cX9_dueBits 64 = .ok (.iaload, 1) := by decide +kernel
theorem dX9_dueBits_65 : decode cX9_dueBits 65 = .ok (.if_icmp .lt 10, 3) := by decide +kernel
theorem dX9_dueBits_68 : decode cX9_dueBits 68 = .ok (.iload_n 3, 1) := by decide +kernel
theorem dX9_dueBits_69 : decode cX9_dueBits 69 = .ok (.iconst 1, 1) := by decide +kernel
theorem dX9_dueBits_70 : decode cX9_dueBits 70 = .ok (.iload 4, 2) := by decide +kernel
theorem dX9_dueBits_72 : decode cX9_dueBits 72 = .ok (.ishl, 1) := by decide +kernel
theorem dX9_dueBits_73 : decode cX9_dueBits 73 = .ok (.ior, 1) := by decide +kernel
theorem dX9_dueBits_74 : decode cX9_dueBits 74 = .ok (.istore_n 3, 1) := by decide +kernel
theorem dX9_dueBits_75 : decode cX9_dueBits 75 = .ok (.iinc 4 1, 3) := by decide +kernel
theorem dX9_dueBits_78 : decode cX9_dueBits 78 = .ok (.goto (-46), 3) := by decide +kernel
theorem dX9_dueBits_81 : decode cX9_dueBits 81 = .ok (.iload_n 3, 1) := by decide +kernel
theorem dX9_dueBits_82 : decode cX9_dueBits 82 = .ok (.ireturn, 1) := by decide +kernel
theorem dX10_init_0 : decode cX10_init 0 = .ok (.aload_n 0, 1) := by decide +kernel
theorem dX10_init_1 : decode cX10_init 1 = .ok (.invokespecial 3, 3) := by decide +kernel
theorem dX10_init_4 : decode cX10_init 4 = .ok (.aload_n 0, 1) := by decide +kernel
theorem dX10_init_5 : decode cX10_init 5 = .ok (.sipush 240, 3) := by decide +kernel
theorem dX10_init_8 : decode cX10_init 8 = .ok (.newarray .int, 2) := by decide +kernel
theorem dX10_init_10 : decode cX10_init 10 = .ok (.putfield 9, 3) := by decide +kernel
theorem dX10_init_13 : decode cX10_init 13 = .ok (.return_, 1) := by decide +kernel
theorem dX10_bytesOf_0 : decode cX10_bytesOf 0 = .ok (.iconst 0, 1) := by decide +kernel
theorem dX10_bytesOf_1 : decode cX10_bytesOf 1 = .ok (.istore_n 1, 1) := by decide +kernel
theorem dX10_bytesOf_2 : decode cX10_bytesOf 2 = .ok (.bipush 24, 2) := by decide +kernel
theorem dX10_bytesOf_4 : decode cX10_bytesOf 4 = .ok (.istore_n 2, 1) := by decide +kernel
theorem dX10_bytesOf_5 : decode cX10_bytesOf 5 = .ok (.iload_n 2, 1) := by decide +kernel
theorem dX10_bytesOf_6 : decode cX10_bytesOf 6 = .ok (.ifCond .lt 22, 3) := by decide +kernel
theorem dX10_bytesOf_9 : decode cX10_bytesOf 9 = .ok (.iload_n 0, 1) := by decide +kernel
theorem dX10_bytesOf_10 : decode cX10_bytesOf 10 = .ok (.iload_n 2, 1) := by decide +kernel
theorem dX10_bytesOf_11 : decode cX10_bytesOf 11 = .ok (.iushr, 1) := by decide +kernel
theorem dX10_bytesOf_12 : decode cX10_bytesOf 12 = .ok (.sipush 255, 3) := by decide +kernel
theorem dX10_bytesOf_15 : decode cX10_bytesOf 15 = .ok (.iand, 1) := by decide +kernel
theorem dX10_bytesOf_16 : decode cX10_bytesOf 16 = .ok (.ifCond .eq 6, 3) := by decide +kernel
theorem dX10_bytesOf_19 : decode cX10_bytesOf 19 = .ok (.iinc 1 1, 3) := by decide +kernel
theorem dX10_bytesOf_22 : decode cX10_bytesOf 22 = .ok (.iinc 2 (-8), 3) := by decide +kernel
theorem dX10_bytesOf_25 : decode cX10_bytesOf 25 = .ok (.goto (-20), 3) := by decide +kernel
theorem dX10_bytesOf_28 : decode cX10_bytesOf 28 = .ok (.iload_n 1, 1) := by decide +kernel
theorem dX10_bytesOf_29 : decode cX10_bytesOf 29 = .ok (.ireturn, 1) := by decide +kernel
theorem dX10_put_0 : decode cX10_put 0 = .ok (.bipush 24, 2) := by decide +kernel
theorem dX10_put_2 : decode cX10_put 2 = .ok (.istore_n 2, 1) := by decide +kernel
theorem dX10_put_3 : decode cX10_put 3 = .ok (.iload_n 2, 1) := by decide +kernel
theorem dX10_put_4 : decode cX10_put 4 = .ok (.ifCond .lt 51, 3) := by decide +kernel
theorem dX10_put_7 : decode cX10_put 7 = .ok (.iload_n 1, 1) := by decide +kernel
theorem dX10_put_8 : decode cX10_put 8 = .ok (.iload_n 2, 1) := by decide +kernel
theorem dX10_put_9 : decode cX10_put 9 = .ok (.iushr, 1) := by decide +kernel
theorem dX10_put_10 : decode cX10_put 10 = .ok (.sipush 255, 3) := by decide +kernel
theorem dX10_put_13 : decode cX10_put 13 = .ok (.iand, 1) := by decide +kernel
theorem dX10_put_14 : decode cX10_put 14 = .ok (.istore_n 3, 1) := by decide +kernel
theorem dX10_put_15 : decode cX10_put 15 = .ok (.iload_n 3, 1) := by decide +kernel
theorem dX10_put_16 : decode cX10_put 16 = .ok (.ifCond .eq 33, 3) := by decide +kernel
theorem dX10_put_19 : decode cX10_put 19 = .ok (.aload_n 0, 1) := by decide +kernel
theorem dX10_put_20 : decode cX10_put 20 = .ok (.getfield 15, 3) := by decide +kernel
theorem dX10_put_23 : decode cX10_put 23 = .ok (.sipush 240, 3) := by decide +kernel
theorem dX10_put_26 : decode cX10_put 26 = .ok (.if_icmp .ge 23, 3) := by decide +kernel
theorem dX10_put_29 : decode cX10_put 29 = .ok (.aload_n 0, 1) := by decide +kernel
theorem dX10_put_30 : decode cX10_put 30 = .ok (.getfield 9, 3) := by decide +kernel
theorem dX10_put_33 : decode cX10_put 33 = .ok (.aload_n 0, 1) := by decide +kernel
theorem dX10_put_34 : decode cX10_put 34 = .ok (.getfield 15, 3) := by decide +kernel
theorem dX10_put_37 : decode cX10_put 37 = .ok (.iload_n 3, 1) := by decide +kernel
theorem dX10_put_38 : decode cX10_put 38 = .ok (.iastore, 1) := by decide +kernel
theorem dX10_put_39 : decode cX10_put 39 = .ok (.aload_n 0, 1) := by decide +kernel
theorem dX10_put_40 : decode cX10_put 40 = .ok (.dup, 1) := by decide +kernel
theorem dX10_put_41 : decode cX10_put 41 = .ok (.getfield 15, 3) := by decide +kernel
theorem dX10_put_44 : decode cX10_put 44 = .ok (.iconst 1, 1) := by decide +kernel
theorem dX10_put_45 : decode cX10_put 45 = .ok (.iadd, 1) := by decide +kernel
theorem dX10_put_46 : decode cX10_put 46 = .ok (.putfield 15, 3) := by decide +kernel
theorem dX10_put_49 : decode cX10_put 49 = .ok (.iinc 2 (-8), 3) := by decide +kernel
theorem dX10_put_52 : decode cX10_put 52 = .ok (.goto (-49), 3) := by decide +kernel
theorem dX10_put_55 : decode cX10_put 55 = .ok (.return_, 1) := by decide +kernel
theorem dX10_sign_0 : decode cX10_sign 0 = .ok (.aload_n 0, 1) := by decide +kernel
theorem dX10_sign_1 : decode cX10_sign 1 = .ok (.getfield 19, 3) := by decide +kernel
theorem dX10_sign_4 : decode cX10_sign 4 = .ok (.aload_n 0, 1) := by decide +kernel
theorem dX10_sign_5 : decode cX10_sign 5 = .ok (.getfield 15, 3) := by decide +kernel
theorem dX10_sign_8 : decode cX10_sign 8 = .ok (.if_icmp .ge 40, 3) := by decide +kernel
theorem dX10_sign_11 : decode cX10_sign 11 = .ok (.aload_n 0, 1) := by decide +kernel
theorem dX10_sign_12 : decode cX10_sign 12 = .ok (.getfield 9, 3) := by decide +kernel
theorem dX10_sign_15 : decode cX10_sign 15 = .ok (.aload_n 0, 1) := by decide +kernel
theorem dX10_sign_16 : decode cX10_sign 16 = .ok (.getfield 19, 3) := by decide +kernel
theorem dX10_sign_19 : decode cX10_sign 19 = .ok (.iaload, 1) := by decide +kernel
theorem dX10_sign_20 : decode cX10_sign 20 = .ok (.bipush 32, 2) := by decide +kernel
theorem dX10_sign_22 : decode cX10_sign 22 = .ok (.if_icmp .eq 13, 3) := by decide +kernel
theorem dX10_sign_25 : decode cX10_sign 25 = .ok (.aload_n 0, 1) := by decide +kernel
theorem dX10_sign_26 : decode cX10_sign 26 = .ok (.getfield 9, 3) := by decide +kernel
theorem dX10_sign_29 : decode cX10_sign 29 = .ok (.aload_n 0, 1) := by decide +kernel
theorem dX10_sign_30 : decode cX10_sign 30 = .ok (.getfield 19, 3) := by decide +kernel
theorem dX10_sign_33 : decode cX10_sign 33 = .ok (.iaload, 1) := by decide +kernel
theorem dX10_sign_34 : decode cX10_sign 34 = .ok (.ireturn, 1) := by decide +kernel
theorem dX10_sign_35 : decode cX10_sign 35 = .ok (.aload_n 0, 1) := by decide +kernel
theorem dX10_sign_36 : decode cX10_sign 36 = .ok (.dup, 1) := by decide +kernel
theorem dX10_sign_37 : decode cX10_sign 37 = .ok (.getfield 19, 3) := by decide +kernel
theorem dX10_sign_40 : decode cX10_sign 40 = .ok (.iconst 1, 1) := by decide +kernel
theorem dX10_sign_41 : decode cX10_sign 41 = .ok (.iadd, 1) := by decide +kernel
theorem dX10_sign_42 : decode cX10_sign 42 = .ok (.putfield 19, 3) := by decide +kernel
theorem dX10_sign_45 : decode cX10_sign 45 = .ok (.goto (-45), 3) := by decide +kernel
theorem dX10_sign_48 : decode cX10_sign 48 = .ok (.iconst (-1), 1) := by decide +kernel
theorem dX10_sign_49 : decode cX10_sign 49 = .ok (.ireturn, 1) := by decide +kernel
set_option maxRecDepth 20000 in
theorem ggX10_take_X10_sign : GoodIn wsX10_take wsX10_sign := goodIn_r _ [6, 1, 7, 8, 9, 10, 11] rfl rfl
set_option maxRecDepth 20000 in
theorem gX10_take_X10_sign : GoodIn wsX10_take (wsV RX10 22 RX10 yX10_sign wsX10_sign) := goodIn_app (goodIn_r _ [2, 3, 4, 5] rfl rfl) ggX10_take_X10_sign
theorem dX10_take_0 : decode cX10_take 0 = .ok (.aload_n 0, 1) := by decide +kernel
theorem dX10_take_1 : decode cX10_take 1 = .ok (.invokevirtual 22, 3) := by decide +kernel
theorem dX10_take_4 : decode cX10_take 4 = .ok (.iload_n 1, 1) := by decide +kernel
theorem dX10_take_5 : decode cX10_take 5 = .ok (.if_icmp .eq 5, 3) := by decide +kernel
theorem dX10_take_8 : decode cX10_take 8 = .ok (.iconst 0, 1) := by decide +kernel
theorem dX10_take_9 : decode cX10_take 9 = .ok (.ireturn, 1) := by decide +kernel
theorem dX10_take_10 : decode cX10_take 10 = .ok (.aload_n 0, 1) := by decide +kernel
theorem dX10_take_11 : decode cX10_take 11 = .ok (.dup, 1) := by decide +kernel
theorem dX10_take_12 : decode cX10_take 12 = .ok (.getfield 19, 3) := by decide +kernel
theorem dX10_take_15 : decode cX10_take 15 = .ok (.iconst 1, 1) := by decide +kernel
theorem dX10_take_16 : decode cX10_take 16 = .ok (.iadd, 1) := by decide +kernel
theorem dX10_take_17 : decode cX10_take 17 = .ok (.putfield 19, 3) := by decide +kernel
theorem dX10_take_20 : decode cX10_take 20 = .ok (.iconst 1, 1) := by decide +kernel
theorem dX10_take_21 : decode cX10_take 21 = .ok (.ireturn, 1) := by decide +kernel
theorem dX10_isAtDigit_0 : decode cX10_isAtDigit 0 = .ok (.aload_n 0, 1) := by decide +kernel
theorem dX10_isAtDigit_1 : decode cX10_isAtDigit 1 = .ok (.getfield 19, 3) := by decide +kernel
theorem dX10_isAtDigit_4 : decode cX10_isAtDigit 4 = .ok (.aload_n 0, 1) := by decide +kernel
theorem dX10_isAtDigit_5 : decode cX10_isAtDigit 5 = .ok (.getfield 15, 3) := by decide +kernel
theorem dX10_isAtDigit_8 : decode cX10_isAtDigit 8 = .ok (.if_icmp .ge 35, 3) := by decide +kernel
theorem dX10_isAtDigit_11 : decode cX10_isAtDigit 11 = .ok (.aload_n 0, 1) := by decide +kernel
theorem dX10_isAtDigit_12 : decode cX10_isAtDigit 12 = .ok (.getfield 9, 3) := by decide +kernel
theorem dX10_isAtDigit_15 : decode cX10_isAtDigit 15 = .ok (.aload_n 0, 1) := by decide +kernel
theorem dX10_isAtDigit_16 : decode cX10_isAtDigit 16 = .ok (.getfield 19, 3) := by decide +kernel
theorem dX10_isAtDigit_19 : decode cX10_isAtDigit 19 = .ok (.iaload, 1) := by decide +kernel
theorem dX10_isAtDigit_20 : decode cX10_isAtDigit 20 = .ok (.bipush 48, 2) := by decide +kernel
theorem dX10_isAtDigit_22 : decode cX10_isAtDigit 22 = .ok (.if_icmp .lt 21, 3) := by decide +kernel
theorem dX10_isAtDigit_25 : decode cX10_isAtDigit 25 = .ok (.aload_n 0, 1) := by decide +kernel
theorem dX10_isAtDigit_26 : decode cX10_isAtDigit 26 = .ok (.getfield 9, 3) := by decide +kernel
theorem dX10_isAtDigit_29 : decode cX10_isAtDigit 29 = .ok (.aload_n 0, 1) := by decide +kernel
theorem dX10_isAtDigit_30 : decode cX10_isAtDigit 30 = .ok (.getfield 19, 3) := by decide +kernel
theorem dX10_isAtDigit_33 : decode cX10_isAtDigit 33 = .ok (.iaload, 1) := by decide +kernel
theorem dX10_isAtDigit_34 : decode cX10_isAtDigit 34 = .ok (.bipush 57, 2) := by decide +kernel
theorem dX10_isAtDigit_36 : decode cX10_isAtDigit 36 = .ok (.if_icmp .gt 7, 3) := by decide +kernel
theorem dX10_isAtDigit_39 : decode cX10_isAtDigit 39 = .ok (.iconst 1, 1) := by decide +kernel
theorem dX10_isAtDigit_40 : decode cX10_isAtDigit 40 = .ok (.goto 4, 3) := by decide +kernel
theorem dX10_isAtDigit_43 : decode cX10_isAtDigit 43 = .ok (.iconst 0, 1) := by decide +kernel
theorem dX10_isAtDigit_44 : decode cX10_isAtDigit 44 = .ok (.ireturn, 1) := by decide +kernel
set_option maxRecDepth 20000 in
theorem ggX10_number_X10_sign : GoodIn wsX10_number wsX10_sign := goodIn_r _ [7, 2, 8, 1, 13, 14, 15] rfl rfl
set_option maxRecDepth 20000 in
theorem gX10_number_X10_sign : GoodIn wsX10_number (wsV RX10 22 RX10 yX10_sign wsX10_sign) := goodIn_app (goodIn_r _ [3, 4, 5, 6] rfl rfl) ggX10_number_X10_sign
set_option maxRecDepth 20000 in
theorem ggX10_number_X10_isAtDigit : GoodIn wsX10_number wsX10_isAtDigit := goodIn_r _ [12, 2, 8, 1, 13, 14, 15] rfl rfl
set_option maxRecDepth 20000 in
theorem gX10_number_X10_isAtDigit : GoodIn wsX10_number (wsV RX10 26 RX10 yX10_isAtDigit wsX10_isAtDigit) := goodIn_app (goodIn_r _ [9, 10, 11, 6] rfl rfl) ggX10_number_X10_isAtDigit
theorem dX10_number_0 : decode cX10_number 0 = .ok (.aload_n 0, 1) := by decide +kernel
theorem dX10_number_1 : decode cX10_number 1 = .ok (.invokevirtual 22, 3) := by decide +kernel
theorem dX10_number_4 : decode cX10_number 4 = .ok (.iconst (-1), 1) := by decide +kernel
theorem dX10_number_5 : decode cX10_number 5 = .ok (.if_icmp .ne 5, 3) := by decide +kernel
theorem dX10_number_8 : decode cX10_number 8 = .ok (.iconst (-1), 1) := by decide +kernel
theorem dX10_number_9 : decode cX10_number 9 = .ok (.ireturn, 1) := by decide +kernel
theorem dX10_number_10 : decode cX10_number 10 = .ok (.iconst 0, 1) := by decide +kernel
theorem dX10_number_11 : decode cX10_number 11 = .ok (.istore_n 2, 1) := by decide +kernel
theorem dX10_number_12 : decode cX10_number 12 = .ok (.iconst 0, 1) := by decide +kernel
theorem dX10_number_13 : decode cX10_number 13 = .ok (.istore_n 3, 1) := by decide +kernel
theorem dX10_number_14 : decode cX10_number 14 = .ok (.iload_n 3, 1) := by decide +kernel
theorem dX10_number_15 : decode cX10_number 15 = .ok (.iload_n 1, 1) := by decide +kernel
theorem dX10_number_16 : decode cX10_number 16 = .ok (.if_icmp .ge 44, 3) := by decide +kernel
theorem dX10_number_19 : decode cX10_number 19 = .ok (.aload_n 0, 1) := by decide +kernel
theorem dX10_number_20 : decode cX10_number 20 = .ok (.invokevirtual 26, 3) := by decide +kernel
theorem dX10_number_23 : decode cX10_number 23 = .ok (.ifCond .eq 37, 3) := by decide +kernel
theorem dX10_number_26 : decode cX10_number 26 = .ok (.iload_n 2, 1) := by decide +kernel
theorem dX10_number_27 : decode cX10_number 27 = .ok (.bipush 10, 2) := by decide +kernel
theorem dX10_number_29 : decode cX10_number 29 = .ok (.imul, 1) := by decide +kernel
theorem dX10_number_30 : decode cX10_number 30 = .ok (.aload_n 0, 1) := by decide +kernel
theorem dX10_number_31 : decode cX10_number 31 = .ok (.getfield 9, 3) := by decide +kernel
theorem dX10_number_34 : decode cX10_number 34 = .ok (.aload_n 0, 1) := by decide +kernel
theorem dX10_number_35 : decode cX10_number 35 = .ok (.getfield 19, 3) := by decide +kernel
theorem dX10_number_38 : decode cX10_number 38 = .ok (.iaload, 1) := by decide +kernel
theorem dX10_number_39 : decode cX10_number 39 = .ok (.iadd, 1) := by decide +kernel
theorem dX10_number_40 : decode cX10_number 40 = .ok (.bipush 48, 2) := by decide +kernel
theorem dX10_number_42 : decode cX10_number 42 = .ok (.isub, 1) := by decide +kernel
theorem dX10_number_43 : decode cX10_number 43 = .ok (.istore_n 2, 1) := by decide +kernel
theorem dX10_number_44 : decode cX10_number 44 = .ok (.aload_n 0, 1) := by decide +kernel
theorem dX10_number_45 : decode cX10_number 45 = .ok (.dup, 1) := by decide +kernel
theorem dX10_number_46 : decode cX10_number 46 = .ok (.getfield 19, 3) := by decide +kernel
theorem dX10_number_49 : decode cX10_number 49 = .ok (.iconst 1, 1) := by decide +kernel
theorem dX10_number_50 : decode cX10_number 50 = .ok (.iadd, 1) := by decide +kernel
theorem dX10_number_51 : decode cX10_number 51 = .ok (.putfield 19, 3) := by decide +kernel
theorem dX10_number_54 : decode cX10_number 54 = .ok (.iinc 3 1, 3) := by decide +kernel
theorem dX10_number_57 : decode cX10_number 57 = .ok (.goto (-43), 3) := by decide +kernel
theorem dX10_number_60 : decode cX10_number 60 = .ok (.iload_n 3, 1) := by decide +kernel
theorem dX10_number_61 : decode cX10_number 61 = .ok (.ifCond .eq 10, 3) := by decide +kernel
theorem dX10_number_64 : decode cX10_number 64 = .ok (.aload_n 0, 1) := by decide +kernel
theorem dX10_number_65 : decode cX10_number 65 = .ok (.invokevirtual 26, 3) := by decide +kernel
theorem dX10_number_68 : decode cX10_number 68 = .ok (.ifCond .eq 7, 3) := by decide +kernel
theorem dX10_number_71 : decode cX10_number 71 = .ok (.iconst (-1), 1) := by decide +kernel
theorem dX10_number_72 : decode cX10_number 72 = .ok (.goto 4, 3) := by decide +kernel
theorem dX10_number_75 : decode cX10_number 75 = .ok (.iload_n 2, 1) := by decide +kernel
theorem dX10_number_76 : decode cX10_number 76 = .ok (.ireturn, 1) := by decide +kernel
set_option maxRecDepth 20000 in
theorem ggX11_init_X10_init : GoodIn wsX11_init wsX10_init := goodIn_r _ [57, 58, 2, 3, 51, 59, 129, 130, 131] rfl rfl
set_option maxRecDepth 20000 in
theorem gX11_init_X10_init_n9 : GoodIn wsX11_init (wsX10_init) := ggX11_init_X10_init
set_option maxRecDepth 20000 in
theorem ggX11_init_X6_init : GoodIn wsX11_init wsX6_init := goodIn_r _ [62, 63, 2, 3, 64, 17, 18, 65, 51, 66, 67, 68, 69, 70, 71, 72, 73, 74, 75, 76, 157, 158, 159, 160, 161, 162, 163, 164, 165, 166, 150, 151, 152, 153] rfl rfl
set_option maxRecDepth 20000 in
theorem gX11_init_X6_init : GoodIn wsX11_init (wsX6_init) := ggX11_init_X6_init
set_option maxRecDepth 20000 in
theorem ggX11_init_X1_init : GoodIn wsX11_init wsX1_init := goodIn_r _ [79, 80, 2, 3, 51, 81, 82, 154, 155, 156] rfl rfl
set_option maxRecDepth 20000 in
theorem gX11_init_X1_init : GoodIn wsX11_init (wsX1_init) := ggX11_init_X1_init
set_option maxRecDepth 20000 in
theorem ggX11_init_X5_init : GoodIn wsX11_init wsX5_init := goodIn_r _ [69, 70, 2, 3, 51, 71, 72, 73, 74, 75, 76, 157, 158, 159, 160, 161, 162, 163, 164, 165, 166] rfl rfl
set_option maxRecDepth 20000 in
theorem gX11_init_X5_init_n34 : GoodIn wsX11_init (wsX5_init) := ggX11_init_X5_init
set_option maxRecDepth 20000 in
theorem ggX11_init_X2_init : GoodIn wsX11_init wsX2_init := goodIn_r _ [84, 85, 2, 3, 86, 87, 51, 88, 89, 90, 91, 92, 167, 168, 169, 170, 171, 172] rfl rfl
set_option maxRecDepth 20000 in
theorem gX11_init_X2_init_n41 : GoodIn wsX11_init (wsX2_init) := ggX11_init_X2_init
set_option maxRecDepth 20000 in
theorem ggX11_init_X9_init : GoodIn wsX11_init wsX9_init := goodIn_r _ [95, 96, 2, 3, 51, 97, 98, 99, 173, 174, 175] rfl rfl
set_option maxRecDepth 20000 in
theorem gX11_init_X9_init : GoodIn wsX11_init (wsX9_init) := ggX11_init_X9_init
set_option maxRecDepth 20000 in
theorem ggX11_init_X3_init : GoodIn wsX11_init wsX3_init := goodIn_r _ [101, 102, 2, 3, 51, 103, 176] rfl rfl
set_option maxRecDepth 20000 in
theorem gX11_init_X3_init_n60 : GoodIn wsX11_init (wsX3_init) := ggX11_init_X3_init
set_option maxRecDepth 20000 in
theorem ggX11_init_X0_init : GoodIn wsX11_init wsX0_init := goodIn_r _ [105, 106, 2, 3, 51, 107, 177, 178, 179] rfl rfl
set_option maxRecDepth 20000 in
theorem gX11_init_X0_init_n67 : GoodIn wsX11_init (wsX0_init) := ggX11_init_X0_init
set_option maxRecDepth 20000 in
theorem ggX11_init_X8_init : GoodIn wsX11_init wsX8_init := goodIn_r _ [110, 111, 2, 3, 51, 112, 113, 114, 115, 116, 117, 118, 180, 181, 182, 183, 184, 185, 186] rfl rfl
set_option maxRecDepth 20000 in
theorem gX11_init_X8_init : GoodIn wsX11_init (wsX8_init) := ggX11_init_X8_init
set_option maxRecDepth 20000 in
theorem ggX11_init_X4_init : GoodIn wsX11_init wsX4_init := goodIn_r _ [121, 122, 2, 3, 51, 123, 124, 125, 187, 188, 189, 190, 191, 192, 193] rfl rfl
set_option maxRecDepth 20000 in
theorem gX11_init_X4_init : GoodIn wsX11_init (wsX4_init) := ggX11_init_X4_init
set_option maxRecDepth 20000 in
theorem ggX11_init_X7_init : GoodIn wsX11_init wsX7_init := goodIn_r _ [127, 128, 2, 3] rfl rfl
set_option maxRecDepth 20000 in
theorem gX11_init_X7_init_n96 : GoodIn wsX11_init (wsX7_init) := ggX11_init_X7_init
theorem dX11_init_0 : decode cX11_init 0 = .ok (.aload_n 0, 1) := by decide +kernel
theorem dX11_init_1 : decode cX11_init 1 = .ok (.invokespecial 1, 3) := by decide +kernel
theorem dX11_init_4 : decode cX11_init 4 = .ok (.aload_n 0, 1) := by decide +kernel
theorem dX11_init_5 : decode cX11_init 5 = .ok (.new 7, 3) := by decide +kernel
theorem dX11_init_8 : decode cX11_init 8 = .ok (.dup, 1) := by decide +kernel
theorem dX11_init_9 : decode cX11_init 9 = .ok (.invokespecial 9, 3) := by decide +kernel
theorem dX11_init_12 : decode cX11_init 12 = .ok (.putfield 10, 3) := by decide +kernel
theorem dX11_init_15 : decode cX11_init 15 = .ok (.aload_n 0, 1) := by decide +kernel
theorem dX11_init_16 : decode cX11_init 16 = .ok (.new 16, 3) := by decide +kernel
theorem dX11_init_19 : decode cX11_init 19 = .ok (.dup, 1) := by decide +kernel
theorem dX11_init_20 : decode cX11_init 20 = .ok (.aload_n 0, 1) := by decide +kernel
theorem dX11_init_21 : decode cX11_init 21 = .ok (.getfield 10, 3) := by decide +kernel
theorem dX11_init_24 : decode cX11_init 24 = .ok (.invokespecial 18, 3) := by decide +kernel
theorem dX11_init_27 : decode cX11_init 27 = .ok (.putfield 21, 3) := by decide +kernel
theorem dX11_init_30 : decode cX11_init 30 = .ok (.aload_n 0, 1) := by decide +kernel
theorem dX11_init_31 : decode cX11_init 31 = .ok (.new 25, 3) := by decide +kernel
theorem dX11_init_34 : decode cX11_init 34 = .ok (.dup, 1) := by decide +kernel
theorem dX11_init_35 : decode cX11_init 35 = .ok (.aload_n 0, 1) := by decide +kernel
theorem dX11_init_36 : decode cX11_init 36 = .ok (.getfield 10, 3) := by decide +kernel
theorem dX11_init_39 : decode cX11_init 39 = .ok (.invokespecial 27, 3) := by decide +kernel
theorem dX11_init_42 : decode cX11_init 42 = .ok (.putfield 28, 3) := by decide +kernel
theorem dX11_init_45 : decode cX11_init 45 = .ok (.aload_n 0, 1) := by decide +kernel
theorem dX11_init_46 : decode cX11_init 46 = .ok (.new 32, 3) := by decide +kernel
theorem dX11_init_49 : decode cX11_init 49 = .ok (.dup, 1) := by decide +kernel
theorem dX11_init_50 : decode cX11_init 50 = .ok (.invokespecial 34, 3) := by decide +kernel
theorem dX11_init_53 : decode cX11_init 53 = .ok (.putfield 35, 3) := by decide +kernel
theorem dX11_init_56 : decode cX11_init 56 = .ok (.aload_n 0, 1) := by decide +kernel
theorem dX11_init_57 : decode cX11_init 57 = .ok (.new 39, 3) := by decide +kernel
theorem dX11_init_60 : decode cX11_init 60 = .ok (.dup, 1) := by decide +kernel
theorem dX11_init_61 : decode cX11_init 61 = .ok (.invokespecial 41, 3) := by decide +kernel
theorem dX11_init_64 : decode cX11_init 64 = .ok (.putfield 42, 3) := by decide +kernel
theorem dX11_init_67 : decode cX11_init 67 = .ok (.aload_n 0, 1) := by decide +kernel
theorem dX11_init_68 : decode cX11_init 68 = .ok (.new 46, 3) := by decide +kernel
theorem dX11_init_71 : decode cX11_init 71 = .ok (.dup, 1) := by decide +kernel
theorem dX11_init_72 : decode cX11_init 72 = .ok (.aload_n 0, 1) := by decide +kernel
theorem dX11_init_73 : decode cX11_init 73 = .ok (.getfield 35, 3) := by decide +kernel
theorem dX11_init_76 : decode cX11_init 76 = .ok (.aload_n 0, 1) := by decide +kernel
theorem dX11_init_77 : decode cX11_init 77 = .ok (.getfield 42, 3) := by decide +kernel
theorem dX11_init_80 : decode cX11_init 80 = .ok (.invokespecial 48, 3) := by decide +kernel
theorem dX11_init_83 : decode cX11_init 83 = .ok (.putfield 51, 3) := by decide +kernel
theorem dX11_init_86 : decode cX11_init 86 = .ok (.aload_n 0, 1) := by decide +kernel
theorem dX11_init_87 : decode cX11_init 87 = .ok (.new 46, 3) := by decide +kernel
theorem dX11_init_90 : decode cX11_init 90 = .ok (.dup, 1) := by decide +kernel
theorem dX11_init_91 : decode cX11_init 91 = .ok (.aload_n 0, 1) := by decide +kernel
theorem dX11_init_92 : decode cX11_init 92 = .ok (.getfield 35, 3) := by decide +kernel
theorem dX11_init_95 : decode cX11_init 95 = .ok (.aload_n 0, 1) := by decide +kernel
theorem dX11_init_96 : decode cX11_init 96 = .ok (.getfield 42, 3) := by decide +kernel
theorem dX11_init_99 : decode cX11_init 99 = .ok (.invokespecial 48, 3) := by decide +kernel
theorem dX11_init_102 : decode cX11_init 102 = .ok (.putfield 55, 3) := by decide +kernel
theorem dX11_init_105 : decode cX11_init 105 = .ok (.aload_n 0, 1) := by decide +kernel
theorem dX11_init_106 : decode cX11_init 106 = .ok (.new 58, 3) := by decide +kernel
theorem dX11_init_109 : decode cX11_init 109 = .ok (.dup, 1) := by decide +kernel
theorem dX11_init_110 : decode cX11_init 110 = .ok (.invokespecial 60, 3) := by decide +kernel
theorem dX11_init_113 : decode cX11_init 113 = .ok (.putfield 61, 3) := by decide +kernel
theorem dX11_init_116 : decode cX11_init 116 = .ok (.aload_n 0, 1) := by decide +kernel
theorem dX11_init_117 : decode cX11_init 117 = .ok (.new 65, 3) := by decide +kernel
theorem dX11_init_120 : decode cX11_init 120 = .ok (.dup, 1) := by decide +kernel
theorem dX11_init_121 : decode cX11_init 121 = .ok (.invokespecial 67, 3) := by decide +kernel
theorem dX11_init_124 : decode cX11_init 124 = .ok (.putfield 68, 3) := by decide +kernel
theorem dX11_init_127 : decode cX11_init 127 = .ok (.aload_n 0, 1) := by decide +kernel
theorem dX11_init_128 : decode cX11_init 128 = .ok (.new 46, 3) := by decide +kernel
theorem dX11_init_131 : decode cX11_init 131 = .ok (.dup, 1) := by decide +kernel
theorem dX11_init_132 : decode cX11_init 132 = .ok (.aload_n 0, 1) := by decide +kernel
theorem dX11_init_133 : decode cX11_init 133 = .ok (.getfield 35, 3) := by decide +kernel
theorem dX11_init_136 : decode cX11_init 136 = .ok (.aload_n 0, 1) := by decide +kernel
theorem dX11_init_137 : decode cX11_init 137 = .ok (.getfield 42, 3) := by decide +kernel
theorem dX11_init_140 : decode cX11_init 140 = .ok (.invokespecial 48, 3) := by decide +kernel
theorem dX11_init_143 : decode cX11_init 143 = .ok (.putfield 72, 3) := by decide +kernel
theorem dX11_init_146 : decode cX11_init 146 = .ok (.aload_n 0, 1) := by decide +kernel
theorem dX11_init_147 : decode cX11_init 147 = .ok (.new 58, 3) := by decide +kernel
theorem dX11_init_150 : decode cX11_init 150 = .ok (.dup, 1) := by decide +kernel
theorem dX11_init_151 : decode cX11_init 151 = .ok (.invokespecial 60, 3) := by decide +kernel
theorem dX11_init_154 : decode cX11_init 154 = .ok (.putfield 75, 3) := by decide +kernel
theorem dX11_init_157 : decode cX11_init 157 = .ok (.aload_n 0, 1) := by decide +kernel
theorem dX11_init_158 : decode cX11_init 158 = .ok (.new 78, 3) := by decide +kernel
theorem dX11_init_161 : decode cX11_init 161 = .ok (.dup, 1) := by decide +kernel
theorem dX11_init_162 : decode cX11_init 162 = .ok (.aload_n 0, 1) := by decide +kernel
theorem dX11_init_163 : decode cX11_init 163 = .ok (.getfield 35, 3) := by decide +kernel
theorem dX11_init_166 : decode cX11_init 166 = .ok (.aload_n 0, 1) := by decide +kernel
theorem dX11_init_167 : decode cX11_init 167 = .ok (.getfield 42, 3) := by decide +kernel
theorem dX11_init_170 : decode cX11_init 170 = .ok (.invokespecial 80, 3) := by decide +kernel
theorem dX11_init_173 : decode cX11_init 173 = .ok (.putfield 81, 3) := by decide +kernel
theorem dX11_init_176 : decode cX11_init 176 = .ok (.aload_n 0, 1) := by decide +kernel
theorem dX11_init_177 : decode cX11_init 177 = .ok (.new 85, 3) := by decide +kernel
theorem dX11_init_180 : decode cX11_init 180 = .ok (.dup, 1) := by decide +kernel
theorem dX11_init_181 : decode cX11_init 181 = .ok (.aload_n 0, 1) := by decide +kernel
theorem dX11_init_182 : decode cX11_init 182 = .ok (.getfield 35, 3) := by decide +kernel
theorem dX11_init_185 : decode cX11_init 185 = .ok (.invokespecial 87, 3) := by decide +kernel
theorem dX11_init_188 : decode cX11_init 188 = .ok (.putfield 90, 3) := by decide +kernel
theorem dX11_init_191 : decode cX11_init 191 = .ok (.aload_n 0, 1) := by decide +kernel
theorem dX11_init_192 : decode cX11_init 192 = .ok (.new 94, 3) := by decide +kernel
theorem dX11_init_195 : decode cX11_init 195 = .ok (.dup, 1) := by decide +kernel
theorem dX11_init_196 : decode cX11_init 196 = .ok (.invokespecial 96, 3) := by decide +kernel
theorem dX11_init_199 : decode cX11_init 199 = .ok (.putfield 97, 3) := by decide +kernel
theorem dX11_init_202 : decode cX11_init 202 = .ok (.aload_n 0, 1) := by decide +kernel
theorem dX11_init_203 : decode cX11_init 203 = .ok (.iconst 5, 1) := by decide +kernel
theorem dX11_init_204 : decode cX11_init 204 = .ok (.newarray .int, 2) := by decide +kernel
theorem dX11_init_206 : decode cX11_init 206 = .ok (.putfield 101, 3) := by decide +kernel
theorem dX11_init_209 : decode cX11_init 209 = .ok (.aload_n 0, 1) := by decide +kernel
theorem dX11_init_210 : decode cX11_init 210 = .ok (.iconst 0, 1) := by decide +kernel
theorem dX11_init_211 : decode cX11_init 211 = .ok (.putfield 105, 3) := by decide +kernel
theorem dX11_init_214 : decode cX11_init 214 = .ok (.aload_n 0, 1) := by decide +kernel
theorem dX11_init_215 : decode cX11_init 215 = .ok (.iconst 1, 1) := by decide +kernel
theorem dX11_init_216 : decode cX11_init 216 = .ok (.putfield 109, 3) := by decide +kernel
theorem dX11_init_219 : decode cX11_init 219 = .ok (.aload_n 0, 1) := by decide +kernel
theorem dX11_init_220 : decode cX11_init 220 = .ok (.lconst 0, 1) := by decide +kernel
theorem dX11_init_221 : decode cX11_init 221 = .ok (.putfield 113, 3) := by decide +kernel
theorem dX11_init_224 : decode cX11_init 224 = .ok (.return_, 1) := by decide +kernel
set_option maxRecDepth 20000 in
theorem ggX11_feed_X10_bytesOf : GoodIn wsX11_feed wsX10_bytesOf := goodIn_r _ [6] rfl rfl
set_option maxRecDepth 20000 in
theorem gX11_feed_X10_bytesOf : GoodIn wsX11_feed (va_wsS RX11 117 yX10_bytesOf wsX10_bytesOf) := goodIn_app (goodIn_r _ [3, 4, 5] rfl rfl) ggX11_feed_X10_bytesOf
set_option maxRecDepth 20000 in
theorem ggX11_feed_X10_put : GoodIn wsX11_feed wsX10_put := goodIn_r _ [10, 11, 12, 31, 32, 33] rfl rfl
set_option maxRecDepth 20000 in
theorem gX11_feed_X10_put : GoodIn wsX11_feed (wsV RX11 124 RX10 yX10_put wsX10_put) := goodIn_app (goodIn_r _ [7, 8, 9, 5] rfl rfl) ggX11_feed_X10_put
theorem dX11_feed_0 : decode cX11_feed 0 = .ok (.iload_n 1, 1) := by decide +kernel
theorem dX11_feed_1 : decode cX11_feed 1 = .ok (.invokestatic 117, 3) := by decide +kernel
theorem dX11_feed_4 : decode cX11_feed 4 = .ok (.iload_n 2, 1) := by decide +kernel
theorem dX11_feed_5 : decode cX11_feed 5 = .ok (.invokestatic 117, 3) := by decide +kernel
theorem dX11_feed_8 : decode cX11_feed 8 = .ok (.iadd, 1) := by decide +kernel
theorem dX11_feed_9 : decode cX11_feed 9 = .ok (.iload_n 3, 1) := by decide +kernel
theorem dX11_feed_10 : decode cX11_feed 10 = .ok (.invokestatic 117, 3) := by decide +kernel
theorem dX11_feed_13 : decode cX11_feed 13 = .ok (.iadd, 1) := by decide +kernel
theorem dX11_feed_14 : decode cX11_feed 14 = .ok (.iload 4, 2) := by decide +kernel
theorem dX11_feed_16 : decode cX11_feed 16 = .ok (.invokestatic 117, 3) := by decide +kernel
theorem dX11_feed_19 : decode cX11_feed 19 = .ok (.iadd, 1) := by decide +kernel
theorem dX11_feed_20 : decode cX11_feed 20 = .ok (.iload 5, 2) := by decide +kernel
theorem dX11_feed_22 : decode cX11_feed 22 = .ok (.invokestatic 117, 3) := by decide +kernel
theorem dX11_feed_25 : decode cX11_feed 25 = .ok (.iadd, 1) := by decide +kernel
theorem dX11_feed_26 : decode cX11_feed 26 = .ok (.istore 6, 2) := by decide +kernel
theorem dX11_feed_28 : decode cX11_feed 28 = .ok (.aload_n 0, 1) := by decide +kernel
theorem dX11_feed_29 : decode cX11_feed 29 = .ok (.getfield 10, 3) := by decide +kernel
theorem dX11_feed_32 : decode cX11_feed 32 = .ok (.getfield 121, 3) := by decide +kernel
theorem dX11_feed_35 : decode cX11_feed 35 = .ok (.iload 6, 2) := by decide +kernel
theorem dX11_feed_37 : decode cX11_feed 37 = .ok (.iadd, 1) := by decide +kernel
theorem dX11_feed_38 : decode cX11_feed 38 = .ok (.sipush 240, 3) := by decide +kernel
theorem dX11_feed_41 : decode cX11_feed 41 = .ok (.if_icmp .le 5, 3) := by decide +kernel
theorem dX11_feed_44 : decode cX11_feed 44 = .ok (.iconst (-1), 1) := by decide +kernel
theorem dX11_feed_45 : decode cX11_feed 45 = .ok (.ireturn, 1) := by decide +kernel
theorem dX11_feed_46 : decode cX11_feed 46 = .ok (.aload_n 0, 1) := by decide +kernel
theorem dX11_feed_47 : decode cX11_feed 47 = .ok (.getfield 10, 3) := by decide +kernel
theorem dX11_feed_50 : decode cX11_feed 50 = .ok (.iload_n 1, 1) := by decide +kernel
theorem dX11_feed_51 : decode cX11_feed 51 = .ok (.invokevirtual 124, 3) := by decide +kernel
theorem dX11_feed_54 : decode cX11_feed 54 = .ok (.aload_n 0, 1) := by decide +kernel
theorem dX11_feed_55 : decode cX11_feed 55 = .ok (.getfield 10, 3) := by decide +kernel
theorem dX11_feed_58 : decode cX11_feed 58 = .ok (.iload_n 2, 1) := by decide +kernel
theorem dX11_feed_59 : decode cX11_feed 59 = .ok (.invokevirtual 124, 3) := by decide +kernel
theorem dX11_feed_62 : decode cX11_feed 62 = .ok (.aload_n 0, 1) := by decide +kernel
theorem dX11_feed_63 : decode cX11_feed 63 = .ok (.getfield 10, 3) := by decide +kernel
theorem dX11_feed_66 : decode cX11_feed 66 = .ok (.iload_n 3, 1) := by decide +kernel
theorem dX11_feed_67 : decode cX11_feed 67 = .ok (.invokevirtual 124, 3) := by decide +kernel
theorem dX11_feed_70 : decode cX11_feed 70 = .ok (.aload_n 0, 1) := by decide +kernel
theorem dX11_feed_71 : decode cX11_feed 71 = .ok (.getfield 10, 3) := by decide +kernel
theorem dX11_feed_74 : decode cX11_feed 74 = .ok (.iload 4, 2) := by decide +kernel
theorem dX11_feed_76 : decode cX11_feed 76 = .ok (.invokevirtual 124, 3) := by decide +kernel
theorem dX11_feed_79 : decode cX11_feed 79 = .ok (.aload_n 0, 1) := by decide +kernel
theorem dX11_feed_80 : decode cX11_feed 80 = .ok (.getfield 10, 3) := by decide +kernel
theorem dX11_feed_83 : decode cX11_feed 83 = .ok (.iload 5, 2) := by decide +kernel
theorem dX11_feed_85 : decode cX11_feed 85 = .ok (.invokevirtual 124, 3) := by decide +kernel
theorem dX11_feed_88 : decode cX11_feed 88 = .ok (.aload_n 0, 1) := by decide +kernel
theorem dX11_feed_89 : decode cX11_feed 89 = .ok (.getfield 10, 3) := by decide +kernel
theorem dX11_feed_92 : decode cX11_feed 92 = .ok (.getfield 121, 3) := by decide +kernel
theorem dX11_feed_95 : decode cX11_feed 95 = .ok (.ireturn, 1) := by decide +kernel
theorem dX11_end_0 : decode cX11_end 0 = .ok (.iload_n 1, 1) := by decide +kernel
theorem dX11_end_1 : decode cX11_end 1 = .ok (.ifCond .lt 14, 3) := by decide +kernel
theorem dX11_end_4 : decode cX11_end 4 = .ok (.iload_n 1, 1) := by decide +kernel
theorem dX11_end_5 : decode cX11_end 5 = .ok (.aload_n 0, 1) := by decide +kernel
theorem dX11_end_6 : decode cX11_end 6 = .ok (.getfield 10, 3) := by decide +kernel
theorem dX11_end_9 : decode cX11_end 9 = .ok (.getfield 121, 3) := by decide +kernel
theorem dX11_end_12 : decode cX11_end 12 = .ok (.if_icmp .le 5, 3) := by decide +kernel
theorem dX11_end_15 : decode cX11_end 15 = .ok (.iconst 0, 1) := by decide +kernel
theorem dX11_end_16 : decode cX11_end 16 = .ok (.ireturn, 1) := by decide +kernel
theorem dX11_end_17 : decode cX11_end 17 = .ok (.aload_n 0, 1) := by decide +kernel
theorem dX11_end_18 : decode cX11_end 18 = .ok (.getfield 10, 3) := by decide +kernel
theorem dX11_end_21 : decode cX11_end 21 = .ok (.iload_n 1, 1) := by decide +kernel
theorem dX11_end_22 : decode cX11_end 22 = .ok (.putfield 121, 3) := by decide +kernel
theorem dX11_end_25 : decode cX11_end 25 = .ok (.iconst 1, 1) := by decide +kernel
theorem dX11_end_26 : decode cX11_end 26 = .ok (.ireturn, 1) := by decide +kernel
set_option maxRecDepth 20000 in
theorem ggX11_fault_X6_readsAll : GoodIn wsX11_fault wsX6_readsAll := goodIn_r _ [9, 10, 11, 12, 13, 14, 15, 16, 17, 18, 19, 20, 21, 8, 22, 23, 24, 25, 26, 27, 28, 29, 30, 31, 32, 33, 34, 35, 36, 37, 38, 39, 40, 41, 42, 43, 44, 45, 46, 47, 48, 49, 50, 51, 52, 53, 54, 55, 56, 57, 58, 59, 60, 61, 62, 63, 64, 65, 66, 67, 68, 69, 70, 71, 72, 73, 74, 75, 76, 77, 78, 79, 80, 81, 82, 83, 84, 85, 167, 168, 169, 170, 164, 165, 166, 171, 172, 173, 174, 175, 176, 177, 178, 179, 180] rfl rfl
set_option maxRecDepth 20000 in
theorem gX11_fault_X6_readsAll : GoodIn wsX11_fault (wsV RX11 128 RX6 yX6_readsAll wsX6_readsAll) := goodIn_app (goodIn_r _ [5, 6, 7, 8] rfl rfl) ggX11_fault_X6_readsAll
set_option maxRecDepth 20000 in
theorem ggX11_fault_X1_readsAll : GoodIn wsX11_fault wsX1_readsAll := goodIn_r _ [90, 91, 92, 93, 94, 95, 96, 89, 97, 98, 83, 84, 26, 85, 28, 60, 24, 25, 27, 29, 30, 99, 100, 101, 102, 103, 104, 105, 106, 107, 108, 109, 110, 111, 112, 113, 114, 115, 116, 117, 118, 119, 120, 121, 122, 123, 124, 125, 126, 127, 128, 129, 130, 131, 132, 133, 134, 57, 58, 59, 61, 62, 63, 64, 135, 136, 137, 138, 139, 140, 141, 142, 143, 144, 145, 181, 182, 183, 164, 165, 166] rfl rfl
set_option maxRecDepth 20000 in
theorem gX11_fault_X1_readsAll : GoodIn wsX11_fault (wsV RX11 132 RX1 yX1_readsAll wsX1_readsAll) := goodIn_app (goodIn_r _ [86, 87, 88, 89] rfl rfl) ggX11_fault_X1_readsAll
theorem dX11_fault_0 : decode cX11_fault 0 = .ok (.iload_n 1, 1) := by decide +kernel
theorem dX11_fault_1 : decode cX11_fault 1 = .ok (.ifCond .eq 11, 3) := by decide +kernel
theorem dX11_fault_4 : decode cX11_fault 4 = .ok (.iload_n 1, 1) := by decide +kernel
theorem dX11_fault_5 : decode cX11_fault 5 = .ok (.iconst 1, 1) := by decide +kernel
theorem dX11_fault_6 : decode cX11_fault 6 = .ok (.if_icmp .eq 6, 3) := by decide +kernel
theorem dX11_fault_9 : decode cX11_fault 9 = .ok (.bipush (-2), 2) := by decide +kernel
theorem dX11_fault_11 : decode cX11_fault 11 = .ok (.ireturn, 1) := by decide +kernel
theorem dX11_fault_12 : decode cX11_fault 12 = .ok (.iload_n 1, 1) := by decide +kernel
theorem dX11_fault_13 : decode cX11_fault 13 = .ok (.ifCond .ne 13, 3) := by decide +kernel
theorem dX11_fault_16 : decode cX11_fault 16 = .ok (.aload_n 0, 1) := by decide +kernel
theorem dX11_fault_17 : decode cX11_fault 17 = .ok (.getfield 21, 3) := by decide +kernel
theorem dX11_fault_20 : decode cX11_fault 20 = .ok (.invokevirtual 128, 3) := by decide +kernel
theorem dX11_fault_23 : decode cX11_fault 23 = .ok (.goto 10, 3) := by decide +kernel
theorem dX11_fault_26 : decode cX11_fault 26 = .ok (.aload_n 0, 1) := by decide +kernel
theorem dX11_fault_27 : decode cX11_fault 27 = .ok (.getfield 28, 3) := by decide +kernel
theorem dX11_fault_30 : decode cX11_fault 30 = .ok (.invokevirtual 132, 3) := by decide +kernel
theorem dX11_fault_33 : decode cX11_fault 33 = .ok (.istore_n 2, 1) := by decide +kernel
theorem dX11_fault_34 : decode cX11_fault 34 = .ok (.iload_n 2, 1) := by decide +kernel
theorem dX11_fault_35 : decode cX11_fault 35 = .ok (.ifCond .eq 7, 3) := by decide +kernel
theorem dX11_fault_38 : decode cX11_fault 38 = .ok (.iconst (-1), 1) := by decide +kernel
theorem dX11_fault_39 : decode cX11_fault 39 = .ok (.goto 10, 3) := by decide +kernel
theorem dX11_fault_42 : decode cX11_fault 42 = .ok (.aload_n 0, 1) := by decide +kernel
theorem dX11_fault_43 : decode cX11_fault 43 = .ok (.getfield 10, 3) := by decide +kernel
theorem dX11_fault_46 : decode cX11_fault 46 = .ok (.getfield 133, 3) := by decide +kernel
theorem dX11_fault_49 : decode cX11_fault 49 = .ok (.ireturn, 1) := by decide +kernel
set_option maxRecDepth 20000 in
theorem ggX11_text_X6_readsAll : GoodIn wsX11_text wsX6_readsAll := goodIn_r _ [8, 9, 10, 11, 12, 13, 14, 15, 16, 17, 18, 19, 20, 7, 21, 22, 23, 24, 25, 26, 27, 28, 29, 30, 31, 32, 33, 34, 35, 36, 37, 38, 39, 40, 41, 42, 43, 44, 45, 46, 47, 48, 49, 50, 51, 52, 53, 54, 55, 56, 57, 58, 59, 60, 61, 62, 63, 64, 65, 66, 67, 68, 69, 70, 71, 72, 73, 74, 75, 76, 77, 78, 79, 80, 81, 82, 83, 84, 228, 229, 230, 231, 232, 233, 234, 235, 236, 237, 238, 239, 240, 241, 242, 243, 244] rfl rfl
set_option maxRecDepth 20000 in
theorem gX11_text_X6_readsAll : GoodIn wsX11_text (wsV RX11 128 RX6 yX6_readsAll wsX6_readsAll) := goodIn_app (goodIn_r _ [4, 5, 6, 7] rfl rfl) ggX11_text_X6_readsAll
set_option maxRecDepth 20000 in
theorem ggX11_text_X11_takePeace : GoodIn wsX11_text wsX11_takePeace := goodIn_r _ [89, 90, 91, 92, 1, 93, 94, 95, 96, 97, 98, 99, 100, 101, 102, 77, 103, 79, 104, 105, 106, 80, 107, 43, 44, 45, 108, 109, 110, 111, 112, 113, 114, 115, 116, 117, 118, 119, 120, 121, 122, 123, 124, 125, 126, 127, 128, 129, 210, 211, 212, 213, 214, 215, 216, 217, 218, 219, 220, 221, 222, 223, 224, 225, 226, 227, 232, 233, 234, 228, 229, 230, 231, 245, 246, 247, 248, 249, 250, 251, 235, 236, 237, 238, 239, 240, 241, 242, 243, 244, 252, 253, 254, 255, 256, 257] rfl rfl
set_option maxRecDepth 20000 in
theorem gX11_text_X11_takePeace : GoodIn wsX11_text (wsV RX11 136 RX11 yX11_takePeace wsX11_takePeace) := goodIn_app (goodIn_r _ [85, 86, 87, 88] rfl rfl) ggX11_text_X11_takePeace
set_option maxRecDepth 20000 in
theorem ggX11_text_X2_isFull : GoodIn wsX11_text wsX2_isFull := goodIn_r _ [134, 135, 258, 259, 260, 261, 262, 263] rfl rfl
set_option maxRecDepth 20000 in
theorem gX11_text_X2_isFull : GoodIn wsX11_text (wsV RX11 140 RX2 yX2_isFull wsX2_isFull) := goodIn_app (goodIn_r _ [130, 131, 132, 133] rfl rfl) ggX11_text_X2_isFull
set_option maxRecDepth 20000 in
theorem ggX11_text_X1_readsAll : GoodIn wsX11_text wsX1_readsAll := goodIn_r _ [140, 141, 142, 143, 144, 145, 146, 139, 147, 148, 82, 83, 25, 84, 27, 59, 23, 24, 26, 28, 29, 149, 150, 151, 152, 153, 154, 155, 156, 157, 158, 159, 160, 161, 162, 163, 164, 165, 166, 167, 168, 169, 170, 171, 172, 173, 174, 175, 176, 177, 178, 179, 180, 133, 181, 182, 183, 56, 57, 58, 60, 61, 62, 63, 184, 185, 186, 187, 188, 189, 190, 191, 192, 193, 194, 264, 265, 266, 232, 233, 234] rfl rfl
set_option maxRecDepth 20000 in
theorem gX11_text_X1_readsAll : GoodIn wsX11_text (wsV RX11 132 RX1 yX1_readsAll wsX1_readsAll) := goodIn_app (goodIn_r _ [136, 137, 138, 139] rfl rfl) ggX11_text_X1_readsAll
set_option maxRecDepth 20000 in
theorem ggX11_text_X11_takeLaw : GoodIn wsX11_text wsX11_takeLaw := goodIn_r _ [198, 90, 91, 2, 3, 199, 200, 201, 202, 203, 204, 133, 205, 206, 135, 207, 43, 44, 45, 208, 209, 131, 132, 134, 210, 211, 212, 213, 214, 215, 216, 217, 218, 219, 220, 221, 222, 223, 224, 225, 226, 227, 232, 233, 234, 264, 265, 266, 258, 259, 260, 261, 262, 263] rfl rfl
set_option maxRecDepth 20000 in
theorem gX11_text_X11_takeLaw : GoodIn wsX11_text (wsV RX11 143 RX11 yX11_takeLaw wsX11_takeLaw) := goodIn_app (goodIn_r _ [195, 196, 197, 88] rfl rfl) ggX11_text_X11_takeLaw
theorem dX11_text_0 : decode cX11_text 0 = .ok (.iload_n 1, 1) := by decide +kernel
theorem dX11_text_1 : decode cX11_text 1 = .ok (.ifCond .ne 18, 3) := by decide +kernel
theorem dX11_text_4 : decode cX11_text 4 = .ok (.aload_n 0, 1) := by decide +kernel
theorem dX11_text_5 : decode cX11_text 5 = .ok (.getfield 21, 3) := by decide +kernel
theorem dX11_text_8 : decode cX11_text 8 = .ok (.invokevirtual 128, 3) := by decide +kernel
theorem dX11_text_11 : decode cX11_text 11 = .ok (.ifCond .eq 8, 3) := by decide +kernel
theorem dX11_text_14 : decode cX11_text 14 = .ok (.aload_n 0, 1) := by decide +kernel
theorem dX11_text_15 : decode cX11_text 15 = .ok (.invokevirtual 136, 3) := by decide +kernel
theorem dX11_text_18 : decode cX11_text 18 = .ok (.ireturn, 1) := by decide +kernel
theorem dX11_text_19 : decode cX11_text 19 = .ok (.iload_n 1, 1) := by decide +kernel
theorem dX11_text_20 : decode cX11_text 20 = .ok (.iconst 1, 1) := by decide +kernel
theorem dX11_text_21 : decode cX11_text 21 = .ok (.if_icmp .ne 30, 3) := by decide +kernel
theorem dX11_text_24 : decode cX11_text 24 = .ok (.aload_n 0, 1) := by decide +kernel
theorem dX11_text_25 : decode cX11_text 25 = .ok (.getfield 42, 3) := by decide +kernel
theorem dX11_text_28 : decode cX11_text 28 = .ok (.invokevirtual 140, 3) := by decide +kernel
theorem dX11_text_31 : decode cX11_text 31 = .ok (.ifCond .ne 20, 3) := by decide +kernel
theorem dX11_text_34 : decode cX11_text 34 = .ok (.aload_n 0, 1) := by decide +kernel
theorem dX11_text_35 : decode cX11_text 35 = .ok (.getfield 28, 3) := by decide +kernel
theorem dX11_text_38 : decode cX11_text 38 = .ok (.invokevirtual 132, 3) := by decide +kernel
theorem dX11_text_41 : decode cX11_text 41 = .ok (.ifCond .eq 10, 3) := by decide +kernel
theorem dX11_text_44 : decode cX11_text 44 = .ok (.aload_n 0, 1) := by decide +kernel
theorem dX11_text_45 : decode cX11_text 45 = .ok (.invokevirtual 143, 3) := by decide +kernel
theorem dX11_text_48 : decode cX11_text 48 = .ok (.goto 4, 3) := by decide +kernel
theorem dX11_text_51 : decode cX11_text 51 = .ok (.iconst (-1), 1) := by decide +kernel
theorem dX11_text_52 : decode cX11_text 52 = .ok (.ireturn, 1) := by decide +kernel
set_option maxRecDepth 20000 in
theorem ggX11_rule_X11_noPeace : GoodIn wsX11_rule wsX11_noPeace := goodIn_r _ [6, 7, 8, 19, 20, 21, 22, 23, 24, 25, 26, 27, 28, 29, 30, 31, 32, 33, 34, 35, 36, 37, 38, 39, 40, 41, 42, 43, 44, 45, 46] rfl rfl
set_option maxRecDepth 20000 in
theorem gX11_rule_X11_noPeace : GoodIn wsX11_rule (wsV RX11 146 RX11 yX11_noPeace wsX11_noPeace) := goodIn_app (goodIn_r _ [2, 3, 4, 5] rfl rfl) ggX11_rule_X11_noPeace
set_option maxRecDepth 20000 in
theorem ggX11_rule_X9_pride : GoodIn wsX11_rule wsX9_pride := goodIn_r _ [13, 14, 47, 48, 49] rfl rfl
set_option maxRecDepth 20000 in
theorem gX11_rule_X9_pride : GoodIn wsX11_rule (wsV RX11 149 RX9 yX9_pride wsX9_pride) := goodIn_app (goodIn_r _ [9, 10, 11, 12] rfl rfl) ggX11_rule_X9_pride
set_option maxRecDepth 20000 in
theorem ggX11_rule_X9_coins : GoodIn wsX11_rule wsX9_coins := goodIn_r _ [18, 14, 47, 48, 49] rfl rfl
set_option maxRecDepth 20000 in
theorem gX11_rule_X9_coins : GoodIn wsX11_rule (wsV RX11 152 RX9 yX9_coins wsX9_coins) := goodIn_app (goodIn_r _ [15, 16, 17, 12] rfl rfl) ggX11_rule_X9_coins
theorem dX11_rule_0 : decode cX11_rule 0 = .ok (.aload_n 0, 1) := by decide +kernel
theorem dX11_rule_1 : decode cX11_rule 1 = .ok (.invokevirtual 146, 3) := by decide +kernel
theorem dX11_rule_4 : decode cX11_rule 4 = .ok (.ifCond .ne 12, 3) := by decide +kernel
theorem dX11_rule_7 : decode cX11_rule 7 = .ok (.iload_n 1, 1) := by decide +kernel
theorem dX11_rule_8 : decode cX11_rule 8 = .ok (.ifCond .lt 8, 3) := by decide +kernel
theorem dX11_rule_11 : decode cX11_rule 11 = .ok (.iload_n 1, 1) := by decide +kernel
theorem dX11_rule_12 : decode cX11_rule 12 = .ok (.iconst 1, 1) := by decide +kernel
theorem dX11_rule_13 : decode cX11_rule 13 = .ok (.if_icmp .le 5, 3) := by decide +kernel
theorem dX11_rule_16 : decode cX11_rule 16 = .ok (.iconst (-1), 1) := by decide +kernel
theorem dX11_rule_17 : decode cX11_rule 17 = .ok (.ireturn, 1) := by decide +kernel
theorem dX11_rule_18 : decode cX11_rule 18 = .ok (.iload_n 1, 1) := by decide +kernel
theorem dX11_rule_19 : decode cX11_rule 19 = .ok (.ifCond .ne 13, 3) := by decide +kernel
theorem dX11_rule_22 : decode cX11_rule 22 = .ok (.aload_n 0, 1) := by decide +kernel
theorem dX11_rule_23 : decode cX11_rule 23 = .ok (.getfield 51, 3) := by decide +kernel
theorem dX11_rule_26 : decode cX11_rule 26 = .ok (.invokevirtual 149, 3) := by decide +kernel
theorem dX11_rule_29 : decode cX11_rule 29 = .ok (.goto 10, 3) := by decide +kernel
theorem dX11_rule_32 : decode cX11_rule 32 = .ok (.aload_n 0, 1) := by decide +kernel
theorem dX11_rule_33 : decode cX11_rule 33 = .ok (.getfield 51, 3) := by decide +kernel
theorem dX11_rule_36 : decode cX11_rule 36 = .ok (.invokevirtual 152, 3) := by decide +kernel
theorem dX11_rule_39 : decode cX11_rule 39 = .ok (.ireturn, 1) := by decide +kernel
set_option maxRecDepth 20000 in
theorem ggX11_glove_X5_hasGlove : GoodIn wsX11_glove wsX5_hasGlove := goodIn_r _ [11, 12, 49, 50, 51, 52, 53, 54, 55, 56, 57, 58] rfl rfl
set_option maxRecDepth 20000 in
theorem gX11_glove_X5_hasGlove : GoodIn wsX11_glove (wsV RX11 155 RX5 yX5_hasGlove wsX5_hasGlove) := goodIn_app (goodIn_of _ (by decide +kernel)) ggX11_glove_X5_hasGlove
set_option maxRecDepth 20000 in
theorem ggX11_glove_X9_free : GoodIn wsX11_glove wsX9_free := goodIn_r _ [17, 18, 59, 60, 61] rfl rfl
set_option maxRecDepth 20000 in
theorem gX11_glove_X9_free : GoodIn wsX11_glove (wsV RX11 169 RX9 yX9_free wsX9_free) := goodIn_app (goodIn_of _ (by decide +kernel)) ggX11_glove_X9_free
set_option maxRecDepth 20000 in
theorem ggX11_glove_X9_stuffed : GoodIn wsX11_glove wsX9_stuffed := goodIn_r _ [22, 18, 59, 60, 61] rfl rfl
set_option maxRecDepth 20000 in
theorem gX11_glove_X9_stuffed : GoodIn wsX11_glove (wsV RX11 172 RX9 yX9_stuffed wsX9_stuffed) := goodIn_app (goodIn_of _ (by decide +kernel)) ggX11_glove_X9_stuffed
set_option maxRecDepth 20000 in
theorem ggX11_glove_X9_hasMet : GoodIn wsX11_glove wsX9_hasMet := goodIn_r _ [26, 18, 59, 60, 61] rfl rfl
set_option maxRecDepth 20000 in
theorem gX11_glove_X9_hasMet : GoodIn wsX11_glove (wsV RX11 178 RX9 yX9_hasMet wsX9_hasMet) := goodIn_app (goodIn_of _ (by decide +kernel)) ggX11_glove_X9_hasMet
set_option maxRecDepth 20000 in
theorem ggX11_glove_X9_knows : GoodIn wsX11_glove wsX9_knows := goodIn_r _ [30, 18, 59, 60, 61] rfl rfl
set_option maxRecDepth 20000 in
theorem gX11_glove_X9_knows : GoodIn wsX11_glove (wsV RX11 181 RX9 yX9_knows wsX9_knows) := goodIn_app (goodIn_of _ (by decide +kernel)) ggX11_glove_X9_knows
theorem dX11_glove_0 : decode cX11_glove 0 = .ok (.aload_n 0, 1) := by decide +kernel
theorem dX11_glove_1 : decode cX11_glove 1 = .ok (.getfield 35, 3) := by decide +kernel
theorem dX11_glove_4 : decode cX11_glove 4 = .ok (.iload_n 1, 1) := by decide +kernel
theorem dX11_glove_5 : decode cX11_glove 5 = .ok (.invokevirtual 155, 3) := by decide +kernel
theorem dX11_glove_8 : decode cX11_glove 8 = .ok (.ifCond .eq 12, 3) := by decide +kernel
theorem dX11_glove_11 : decode cX11_glove 11 = .ok (.iload_n 2, 1) := by decide +kernel
theorem dX11_glove_12 : decode cX11_glove 12 = .ok (.ifCond .lt 8, 3) := by decide +kernel
theorem dX11_glove_15 : decode cX11_glove 15 = .ok (.iload_n 2, 1) := by decide +kernel
theorem dX11_glove_16 : decode cX11_glove 16 = .ok (.iconst 5, 1) := by decide +kernel
theorem dX11_glove_17 : decode cX11_glove 17 = .ok (.if_icmp .le 13, 3) := by decide +kernel
theorem dX11_glove_20 : decode cX11_glove 20 = .ok (.new 159, 3) := by decide +kernel
theorem dX11_glove_23 : decode cX11_glove 23 = .ok (.dup, 1) := by decide +kernel
theorem dX11_glove_24 : decode cX11_glove 24 = .ok (.ldc 161, 2) := by decide +kernel
theorem dX11_glove_26 : decode cX11_glove 26 = .ok (.invokespecial 163, 3) := by decide +kernel
theorem dX11_glove_29 : decode cX11_glove 29 = .ok (.athrow, 1) := by decide +kernel
theorem dX11_glove_30 : decode cX11_glove 30 = .ok (.iload_n 2, 1) := by decide +kernel
theorem dX11_glove_31 : decode cX11_glove 31 = .ok (.tableswitch 88 0 4 #[33, 43, 52, 61, 71], 33) := by decide +kernel
theorem dX11_glove_64 : decode cX11_glove 64 = .ok (.aload_n 0, 1) := by decide +kernel
theorem dX11_glove_65 : decode cX11_glove 65 = .ok (.getfield 35, 3) := by decide +kernel
theorem dX11_glove_68 : decode cX11_glove 68 = .ok (.getfield 166, 3) := by decide +kernel
theorem dX11_glove_71 : decode cX11_glove 71 = .ok (.iload_n 1, 1) := by decide +kernel
theorem dX11_glove_72 : decode cX11_glove 72 = .ok (.iaload, 1) := by decide +kernel
theorem dX11_glove_73 : decode cX11_glove 73 = .ok (.ireturn, 1) := by decide +kernel
theorem dX11_glove_74 : decode cX11_glove 74 = .ok (.aload_n 0, 1) := by decide +kernel
theorem dX11_glove_75 : decode cX11_glove 75 = .ok (.getfield 51, 3) := by decide +kernel
theorem dX11_glove_78 : decode cX11_glove 78 = .ok (.iload_n 1, 1) := by decide +kernel
theorem dX11_glove_79 : decode cX11_glove 79 = .ok (.invokevirtual 169, 3) := by decide +kernel
theorem dX11_glove_82 : decode cX11_glove 82 = .ok (.ireturn, 1) := by decide +kernel
theorem dX11_glove_83 : decode cX11_glove 83 = .ok (.aload_n 0, 1) := by decide +kernel
theorem dX11_glove_84 : decode cX11_glove 84 = .ok (.getfield 51, 3) := by decide +kernel
theorem dX11_glove_87 : decode cX11_glove 87 = .ok (.iload_n 1, 1) := by decide +kernel
theorem dX11_glove_88 : decode cX11_glove 88 = .ok (.invokevirtual 172, 3) := by decide +kernel
theorem dX11_glove_91 : decode cX11_glove 91 = .ok (.ireturn, 1) := by decide +kernel
theorem dX11_glove_92 : decode cX11_glove 92 = .ok (.aload_n 0, 1) := by decide +kernel
theorem dX11_glove_93 : decode cX11_glove 93 = .ok (.getfield 35, 3) := by decide +kernel
theorem dX11_glove_96 : decode cX11_glove 96 = .ok (.getfield 175, 3) := by decide +kernel
theorem dX11_glove_99 : decode cX11_glove 99 = .ok (.iload_n 1, 1) := by decide +kernel
theorem dX11_glove_100 : decode cX11_glove 100 = .ok (.iaload, 1) := by decide +kernel
theorem dX11_glove_101 : decode cX11_glove 101 = .ok (.ireturn, 1) := by decide +kernel
theorem dX11_glove_102 : decode cX11_glove 102 = .ok (.aload_n 0, 1) := by decide +kernel
theorem dX11_glove_103 : decode cX11_glove 103 = .ok (.getfield 51, 3) := by decide +kernel
theorem dX11_glove_106 : decode cX11_glove 106 = .ok (.iload_n 1, 1) := by decide +kernel
theorem dX11_glove_107 : decode cX11_glove 107 = .ok (.invokevirtual 178, 3) := by decide +kernel
theorem dX11_glove_110 : decode cX11_glove 110 = .ok (.ifCond .eq 7, 3) := by decide +kernel
theorem dX11_glove_113 : decode cX11_glove 113 = .ok (.iconst 1, 1) := by decide +kernel
theorem dX11_glove_114 : decode cX11_glove 114 = .ok (.goto 4, 3) := by decide +kernel
theorem dX11_glove_117 : decode cX11_glove 117 = .ok (.iconst 0, 1) := by decide +kernel
theorem dX11_glove_118 : decode cX11_glove 118 = .ok (.ireturn, 1) := by decide +kernel
theorem dX11_glove_119 : decode cX11_glove 119 = .ok (.aload_n 0, 1) := by decide +kernel
theorem dX11_glove_120 : decode cX11_glove 120 = .ok (.getfield 51, 3) := by decide +kernel
theorem dX11_glove_123 : decode cX11_glove 123 = .ok (.iload_n 1, 1) := by decide +kernel
theorem dX11_glove_124 : decode cX11_glove 124 = .ok (.invokevirtual 181, 3) := by decide +kernel
theorem dX11_glove_127 : decode cX11_glove 127 = .ok (.ireturn, 1) := by decide +kernel
set_option maxRecDepth 20000 in
theorem ggX11_matter_X5_hasMatter : GoodIn wsX11_matter wsX5_hasMatter := goodIn_r _ [9, 10, 35, 36, 37, 38, 39, 40, 41, 42, 43, 44] rfl rfl
set_option maxRecDepth 20000 in
theorem gX11_matter_X5_hasMatter : GoodIn wsX11_matter (wsV RX11 184 RX5 yX5_hasMatter wsX5_hasMatter) := goodIn_app (goodIn_r _ [5, 6, 7, 8] rfl rfl) ggX11_matter_X5_hasMatter
set_option maxRecDepth 20000 in
theorem ggX11_matter_X9_signers : GoodIn wsX11_matter wsX9_signers := goodIn_r _ [15, 16, 45, 46, 47] rfl rfl
set_option maxRecDepth 20000 in
theorem gX11_matter_X9_signers : GoodIn wsX11_matter (wsV RX11 187 RX9 yX9_signers wsX9_signers) := goodIn_app (goodIn_r _ [11, 12, 13, 14] rfl rfl) ggX11_matter_X9_signers
theorem dX11_matter_0 : decode cX11_matter 0 = .ok (.aload_n 0, 1) := by decide +kernel
theorem dX11_matter_1 : decode cX11_matter 1 = .ok (.getfield 35, 3) := by decide +kernel
theorem dX11_matter_4 : decode cX11_matter 4 = .ok (.iload_n 1, 1) := by decide +kernel
theorem dX11_matter_5 : decode cX11_matter 5 = .ok (.invokevirtual 184, 3) := by decide +kernel
theorem dX11_matter_8 : decode cX11_matter 8 = .ok (.ifCond .eq 12, 3) := by decide +kernel
theorem dX11_matter_11 : decode cX11_matter 11 = .ok (.iload_n 2, 1) := by decide +kernel
theorem dX11_matter_12 : decode cX11_matter 12 = .ok (.ifCond .lt 8, 3) := by decide +kernel
theorem dX11_matter_15 : decode cX11_matter 15 = .ok (.iload_n 2, 1) := by decide +kernel
theorem dX11_matter_16 : decode cX11_matter 16 = .ok (.iconst 2, 1) := by decide +kernel
theorem dX11_matter_17 : decode cX11_matter 17 = .ok (.if_icmp .le 6, 3) := by decide +kernel
theorem dX11_matter_20 : decode cX11_matter 20 = .ok (.bipush (-2), 2) := by decide +kernel
theorem dX11_matter_22 : decode cX11_matter 22 = .ok (.ireturn, 1) := by decide +kernel
theorem dX11_matter_23 : decode cX11_matter 23 = .ok (.iload_n 2, 1) := by decide +kernel
theorem dX11_matter_24 : decode cX11_matter 24 = .ok (.iconst 2, 1) := by decide +kernel
theorem dX11_matter_25 : decode cX11_matter 25 = .ok (.if_icmp .ne 12, 3) := by decide +kernel
theorem dX11_matter_28 : decode cX11_matter 28 = .ok (.aload_n 0, 1) := by decide +kernel
theorem dX11_matter_29 : decode cX11_matter 29 = .ok (.getfield 51, 3) := by decide +kernel
theorem dX11_matter_32 : decode cX11_matter 32 = .ok (.iload_n 1, 1) := by decide +kernel
theorem dX11_matter_33 : decode cX11_matter 33 = .ok (.invokevirtual 187, 3) := by decide +kernel
theorem dX11_matter_36 : decode cX11_matter 36 = .ok (.ireturn, 1) := by decide +kernel
theorem dX11_matter_37 : decode cX11_matter 37 = .ok (.iload_n 2, 1) := by decide +kernel
theorem dX11_matter_38 : decode cX11_matter 38 = .ok (.ifCond .ne 15, 3) := by decide +kernel
theorem dX11_matter_41 : decode cX11_matter 41 = .ok (.aload_n 0, 1) := by decide +kernel
theorem dX11_matter_42 : decode cX11_matter 42 = .ok (.getfield 35, 3) := by decide +kernel
theorem dX11_matter_45 : decode cX11_matter 45 = .ok (.getfield 190, 3) := by decide +kernel
theorem dX11_matter_48 : decode cX11_matter 48 = .ok (.iload_n 1, 1) := by decide +kernel
theorem dX11_matter_49 : decode cX11_matter 49 = .ok (.iaload, 1) := by decide +kernel
theorem dX11_matter_50 : decode cX11_matter 50 = .ok (.goto 12, 3) := by decide +kernel
theorem dX11_matter_53 : decode cX11_matter 53 = .ok (.aload_n 0, 1) := by decide +kernel
theorem dX11_matter_54 : decode cX11_matter 54 = .ok (.getfield 35, 3) := by decide +kernel
theorem dX11_matter_57 : decode cX11_matter 57 = .ok (.getfield 193, 3) := by decide +kernel
theorem dX11_matter_60 : decode cX11_matter 60 = .ok (.iload_n 1, 1) := by decide +kernel
theorem dX11_matter_61 : decode cX11_matter 61 = .ok (.iaload, 1) := by decide +kernel
theorem dX11_matter_62 : decode cX11_matter 62 = .ok (.ireturn, 1) := by decide +kernel
set_option maxRecDepth 20000 in
theorem ggX11_warmth_X5_unlike : GoodIn wsX11_warmth wsX5_unlike := goodIn_r _ [7, 8, 9, 10, 11, 6, 12, 13, 41, 42, 43, 44, 45, 46, 47, 48, 49, 50] rfl rfl
set_option maxRecDepth 20000 in
theorem gX11_warmth_X5_unlike : GoodIn wsX11_warmth (wsV RX11 196 RX5 yX5_unlike wsX5_unlike) := goodIn_app (goodIn_r _ [3, 4, 5, 6] rfl rfl) ggX11_warmth_X5_unlike
set_option maxRecDepth 20000 in
theorem ggX11_warmth_X9_warmthOf : GoodIn wsX11_warmth wsX9_warmthOf := goodIn_r _ [18, 19, 20, 21, 17, 22, 51, 52, 53] rfl rfl
set_option maxRecDepth 20000 in
theorem gX11_warmth_X9_warmthOf : GoodIn wsX11_warmth (wsV RX11 200 RX9 yX9_warmthOf wsX9_warmthOf) := goodIn_app (goodIn_r _ [14, 15, 16, 17] rfl rfl) ggX11_warmth_X9_warmthOf
theorem dX11_warmth_0 : decode cX11_warmth 0 = .ok (.aload_n 0, 1) := by decide +kernel
theorem dX11_warmth_1 : decode cX11_warmth 1 = .ok (.getfield 35, 3) := by decide +kernel
theorem dX11_warmth_4 : decode cX11_warmth 4 = .ok (.iload_n 1, 1) := by decide +kernel
theorem dX11_warmth_5 : decode cX11_warmth 5 = .ok (.iload_n 2, 1) := by decide +kernel
theorem dX11_warmth_6 : decode cX11_warmth 6 = .ok (.invokevirtual 196, 3) := by decide +kernel
theorem dX11_warmth_9 : decode cX11_warmth 9 = .ok (.ifCond .eq 15, 3) := by decide +kernel
theorem dX11_warmth_12 : decode cX11_warmth 12 = .ok (.aload_n 0, 1) := by decide +kernel
theorem dX11_warmth_13 : decode cX11_warmth 13 = .ok (.getfield 51, 3) := by decide +kernel
theorem dX11_warmth_16 : decode cX11_warmth 16 = .ok (.iload_n 1, 1) := by decide +kernel
theorem dX11_warmth_17 : decode cX11_warmth 17 = .ok (.iload_n 2, 1) := by decide +kernel
theorem dX11_warmth_18 : decode cX11_warmth 18 = .ok (.invokevirtual 200, 3) := by decide +kernel
theorem dX11_warmth_21 : decode cX11_warmth 21 = .ok (.goto 4, 3) := by decide +kernel
theorem dX11_warmth_24 : decode cX11_warmth 24 = .ok (.iconst (-1), 1) := by decide +kernel
theorem dX11_warmth_25 : decode cX11_warmth 25 = .ok (.ireturn, 1) := by decide +kernel
theorem dX11_law_0 : decode cX11_law 0 = .ok (.iload_n 1, 1) := by decide +kernel
theorem dX11_law_1 : decode cX11_law 1 = .ok (.iconst (-1), 1) := by decide +kernel
theorem dX11_law_2 : decode cX11_law 2 = .ok (.if_icmp .lt 14, 3) := by decide +kernel
theorem dX11_law_5 : decode cX11_law 5 = .ok (.iload_n 1, 1) := by decide +kernel
theorem dX11_law_6 : decode cX11_law 6 = .ok (.aload_n 0, 1) := by decide +kernel
theorem dX11_law_7 : decode cX11_law 7 = .ok (.getfield 42, 3) := by decide +kernel
theorem dX11_law_10 : decode cX11_law 10 = .ok (.getfield 204, 3) := by decide +kernel
theorem dX11_law_13 : decode cX11_law 13 = .ok (.if_icmp .lt 5, 3) := by decide +kernel
theorem dX11_law_16 : decode cX11_law 16 = .ok (.iconst 0, 1) := by decide +kernel
theorem dX11_law_17 : decode cX11_law 17 = .ok (.ireturn, 1) := by decide +kernel
theorem dX11_law_18 : decode cX11_law 18 = .ok (.aload_n 0, 1) := by decide +kernel
theorem dX11_law_19 : decode cX11_law 19 = .ok (.getfield 42, 3) := by decide +kernel
theorem dX11_law_22 : decode cX11_law 22 = .ok (.iload_n 1, 1) := by decide +kernel
theorem dX11_law_23 : decode cX11_law 23 = .ok (.putfield 207, 3) := by decide +kernel
theorem dX11_law_26 : decode cX11_law 26 = .ok (.iconst 1, 1) := by decide +kernel
theorem dX11_law_27 : decode cX11_law 27 = .ok (.ireturn, 1) := by decide +kernel
set_option maxRecDepth 20000 in
theorem ggX11_meets_X5_hasGlove : GoodIn wsX11_meets wsX5_hasGlove := goodIn_r _ [8, 9, 158, 159, 160, 161, 162, 163, 164, 165, 166, 167] rfl rfl
set_option maxRecDepth 20000 in
theorem gX11_meets_X5_hasGlove : GoodIn wsX11_meets (wsV RX11 155 RX5 yX5_hasGlove wsX5_hasGlove) := goodIn_app (goodIn_r _ [4, 5, 6, 7] rfl rfl) ggX11_meets_X5_hasGlove
set_option maxRecDepth 20000 in
theorem ggX11_meets_X11_refuse : GoodIn wsX11_meets wsX11_refuse := goodIn_r _ [14, 15, 140, 141, 142, 143, 144, 145, 146, 147, 148, 149, 150, 151, 152, 153, 154, 155, 156, 157] rfl rfl
set_option maxRecDepth 20000 in
theorem gX11_meets_X11_refuse : GoodIn wsX11_meets (wsV RX11 210 RX11 yX11_refuse wsX11_refuse) := goodIn_app (goodIn_r _ [10, 11, 12, 13] rfl rfl) ggX11_meets_X11_refuse
set_option maxRecDepth 20000 in
theorem ggX11_meets_X5_unlike : GoodIn wsX11_meets wsX5_unlike := goodIn_r _ [19, 20, 21, 5, 6, 7, 8, 9, 158, 159, 160, 161, 162, 163, 164, 165, 166, 167] rfl rfl
set_option maxRecDepth 20000 in
theorem gX11_meets_X5_unlike : GoodIn wsX11_meets (wsV RX11 196 RX5 yX5_unlike wsX5_unlike) := goodIn_app (goodIn_r _ [16, 17, 18, 7] rfl rfl) ggX11_meets_X5_unlike
set_option maxRecDepth 20000 in
theorem ggX11_meets_X9_hasMet : GoodIn wsX11_meets wsX9_hasMet := goodIn_r _ [26, 27, 168, 169, 170] rfl rfl
set_option maxRecDepth 20000 in
theorem gX11_meets_X9_hasMet : GoodIn wsX11_meets (wsV RX11 178 RX9 yX9_hasMet wsX9_hasMet) := goodIn_app (goodIn_r _ [22, 23, 24, 25] rfl rfl) ggX11_meets_X9_hasMet
set_option maxRecDepth 20000 in
theorem ggX11_meets_X9_coins : GoodIn wsX11_meets wsX9_coins := goodIn_r _ [31, 27, 168, 169, 170] rfl rfl
set_option maxRecDepth 20000 in
theorem gX11_meets_X9_coins : GoodIn wsX11_meets (wsV RX11 152 RX9 yX9_coins wsX9_coins) := goodIn_app (goodIn_r _ [28, 29, 30, 25] rfl rfl) ggX11_meets_X9_coins
set_option maxRecDepth 20000 in
theorem ggX11_meets_X0_keep : GoodIn wsX11_meets wsX0_keep := goodIn_r _ [36, 37, 38, 39, 40, 41, 42, 43, 44, 45, 46, 47, 48, 168, 169, 170, 171, 172, 173] rfl rfl
set_option maxRecDepth 20000 in
theorem gX11_meets_X0_keep : GoodIn wsX11_meets (wsV RX11 213 RX0 yX0_keep wsX0_keep) := goodIn_app (goodIn_r _ [32, 33, 34, 35] rfl rfl) ggX11_meets_X0_keep
set_option maxRecDepth 20000 in
theorem ggX11_meets_X9_pay : GoodIn wsX11_meets wsX9_pay := goodIn_r _ [52, 27, 168, 169, 170] rfl rfl
set_option maxRecDepth 20000 in
theorem gX11_meets_X9_pay : GoodIn wsX11_meets (wsV RX11 217 RX9 yX9_pay wsX9_pay) := goodIn_app (goodIn_r _ [49, 50, 51, 25] rfl rfl) ggX11_meets_X9_pay
set_option maxRecDepth 20000 in
theorem ggX11_meets_X9_meet : GoodIn wsX11_meets wsX9_meet := goodIn_r _ [56, 27, 57, 58, 25, 59, 60, 61, 62, 63, 64, 65, 66, 67, 68, 46, 47, 48, 69, 70, 71, 72, 73, 74, 75, 76, 77, 78, 79, 80, 81, 82, 83, 84, 85, 86, 87, 88, 89, 90, 91, 92, 7, 93, 94, 95, 96, 97, 98, 99, 100, 101, 102, 103, 104, 105, 106, 107, 108, 109, 110, 111, 112, 113, 114, 115, 116, 117, 118, 119, 120, 121, 122, 123, 124, 125, 126, 127, 128, 129, 130, 131, 132, 133, 134, 135, 136, 137, 138, 168, 169, 170, 158, 159, 160, 161, 162, 163, 164, 165, 166, 167, 174, 175, 176, 177, 178, 179] rfl rfl
set_option maxRecDepth 20000 in
theorem gX11_meets_X9_meet : GoodIn wsX11_meets (wsV RX11 220 RX9 yX9_meet wsX9_meet) := goodIn_app (goodIn_r _ [53, 54, 55, 25] rfl rfl) ggX11_meets_X9_meet
set_option maxRecDepth 20000 in
theorem ggX11_meets_X9_warmthOf : GoodIn wsX11_meets wsX9_warmthOf := goodIn_r _ [63, 27, 57, 58, 25, 59, 168, 169, 170] rfl rfl
set_option maxRecDepth 20000 in
theorem gX11_meets_X9_warmthOf : GoodIn wsX11_meets (wsV RX11 200 RX9 yX9_warmthOf wsX9_warmthOf) := goodIn_app (goodIn_r _ [139, 61, 62, 25] rfl rfl) ggX11_meets_X9_warmthOf
theorem dX11_meets_0 : decode cX11_meets 0 = .ok (.aload_n 0, 1) := by decide +kernel
theorem dX11_meets_1 : decode cX11_meets 1 = .ok (.getfield 35, 3) := by decide +kernel
theorem dX11_meets_4 : decode cX11_meets 4 = .ok (.iload_n 1, 1) := by decide +kernel
theorem dX11_meets_5 : decode cX11_meets 5 = .ok (.invokevirtual 155, 3) := by decide +kernel
theorem dX11_meets_8 : decode cX11_meets 8 = .ok (.ifCond .eq 14, 3) := by decide +kernel
theorem dX11_meets_11 : decode cX11_meets 11 = .ok (.aload_n 0, 1) := by decide +kernel
theorem dX11_meets_12 : decode cX11_meets 12 = .ok (.getfield 35, 3) := by decide +kernel
theorem dX11_meets_15 : decode cX11_meets 15 = .ok (.iload_n 2, 1) := by decide +kernel
theorem dX11_meets_16 : decode cX11_meets 16 = .ok (.invokevirtual 155, 3) := by decide +kernel
theorem dX11_meets_19 : decode cX11_meets 19 = .ok (.ifCond .ne 9, 3) := by decide +kernel
theorem dX11_meets_22 : decode cX11_meets 22 = .ok (.aload_n 0, 1) := by decide +kernel
theorem dX11_meets_23 : decode cX11_meets 23 = .ok (.iconst 0, 1) := by decide +kernel
theorem dX11_meets_24 : decode cX11_meets 24 = .ok (.invokevirtual 210, 3) := by decide +kernel
theorem dX11_meets_27 : decode cX11_meets 27 = .ok (.ireturn, 1) := by decide +kernel
theorem dX11_meets_28 : decode cX11_meets 28 = .ok (.aload_n 0, 1) := by decide +kernel
theorem dX11_meets_29 : decode cX11_meets 29 = .ok (.getfield 35, 3) := by decide +kernel
theorem dX11_meets_32 : decode cX11_meets 32 = .ok (.iload_n 1, 1) := by decide +kernel
theorem dX11_meets_33 : decode cX11_meets 33 = .ok (.iload_n 2, 1) := by decide +kernel
theorem dX11_meets_34 : decode cX11_meets 34 = .ok (.invokevirtual 196, 3) := by decide +kernel
theorem dX11_meets_37 : decode cX11_meets 37 = .ok (.ifCond .ne 9, 3) := by decide +kernel
theorem dX11_meets_40 : decode cX11_meets 40 = .ok (.aload_n 0, 1) := by decide +kernel
theorem dX11_meets_41 : decode cX11_meets 41 = .ok (.iconst 1, 1) := by decide +kernel
theorem dX11_meets_42 : decode cX11_meets 42 = .ok (.invokevirtual 210, 3) := by decide +kernel
theorem dX11_meets_45 : decode cX11_meets 45 = .ok (.ireturn, 1) := by decide +kernel
theorem dX11_meets_46 : decode cX11_meets 46 = .ok (.aload_n 0, 1) := by decide +kernel
theorem dX11_meets_47 : decode cX11_meets 47 = .ok (.getfield 51, 3) := by decide +kernel
theorem dX11_meets_50 : decode cX11_meets 50 = .ok (.iload_n 1, 1) := by decide +kernel
theorem dX11_meets_51 : decode cX11_meets 51 = .ok (.invokevirtual 178, 3) := by decide +kernel
theorem dX11_meets_54 : decode cX11_meets 54 = .ok (.ifCond .ne 14, 3) := by decide +kernel
theorem dX11_meets_57 : decode cX11_meets 57 = .ok (.aload_n 0, 1) := by decide +kernel
theorem dX11_meets_58 : decode cX11_meets 58 = .ok (.getfield 51, 3) := by decide +kernel
theorem dX11_meets_61 : decode cX11_meets 61 = .ok (.iload_n 2, 1) := by decide +kernel
theorem dX11_meets_62 : decode cX11_meets 62 = .ok (.invokevirtual 178, 3) := by decide +kernel
theorem dX11_meets_65 : decode cX11_meets 65 = .ok (.ifCond .eq 9, 3) := by decide +kernel
theorem dX11_meets_68 : decode cX11_meets 68 = .ok (.aload_n 0, 1) := by decide +kernel
theorem dX11_meets_69 : decode cX11_meets 69 = .ok (.iconst 2, 1) := by decide +kernel
theorem dX11_meets_70 : decode cX11_meets 70 = .ok (.invokevirtual 210, 3) := by decide +kernel
theorem dX11_meets_73 : decode cX11_meets 73 = .ok (.ireturn, 1) := by decide +kernel
theorem dX11_meets_74 : decode cX11_meets 74 = .ok (.aload_n 0, 1) := by decide +kernel
theorem dX11_meets_75 : decode cX11_meets 75 = .ok (.getfield 51, 3) := by decide +kernel
theorem dX11_meets_78 : decode cX11_meets 78 = .ok (.invokevirtual 152, 3) := by decide +kernel
theorem dX11_meets_81 : decode cX11_meets 81 = .ok (.iconst 1, 1) := by decide +kernel
theorem dX11_meets_82 : decode cX11_meets 82 = .ok (.if_icmp .ge 9, 3) := by decide +kernel
theorem dX11_meets_85 : decode cX11_meets 85 = .ok (.aload_n 0, 1) := by decide +kernel
theorem dX11_meets_86 : decode cX11_meets 86 = .ok (.iconst 3, 1) := by decide +kernel
theorem dX11_meets_87 : decode cX11_meets 87 = .ok (.invokevirtual 210, 3) := by decide +kernel
theorem dX11_meets_90 : decode cX11_meets 90 = .ok (.ireturn, 1) := by decide +kernel
theorem dX11_meets_91 : decode cX11_meets 91 = .ok (.aload_n 0, 1) := by decide +kernel
theorem dX11_meets_92 : decode cX11_meets 92 = .ok (.getfield 68, 3) := by decide +kernel
theorem dX11_meets_95 : decode cX11_meets 95 = .ok (.aload_n 0, 1) := by decide +kernel
theorem dX11_meets_96 : decode cX11_meets 96 = .ok (.getfield 51, 3) := by decide +kernel
theorem dX11_meets_99 : decode cX11_meets 99 = .ok (.invokevirtual 213, 3) := by decide +kernel
theorem dX11_meets_102 : decode cX11_meets 102 = .ok (.aload_n 0, 1) := by decide +kernel
theorem dX11_meets_103 : decode cX11_meets 103 = .ok (.getfield 51, 3) := by decide +kernel
theorem dX11_meets_106 : decode cX11_meets 106 = .ok (.iconst 1, 1) := by decide +kernel
theorem dX11_meets_107 : decode cX11_meets 107 = .ok (.invokevirtual 217, 3) := by decide +kernel
theorem dX11_meets_110 : decode cX11_meets 110 = .ok (.aload_n 0, 1) := by decide +kernel
theorem dX11_meets_111 : decode cX11_meets 111 = .ok (.getfield 51, 3) := by decide +kernel
theorem dX11_meets_114 : decode cX11_meets 114 = .ok (.iload_n 1, 1) := by decide +kernel
theorem dX11_meets_115 : decode cX11_meets 115 = .ok (.iload_n 2, 1) := by decide +kernel
theorem dX11_meets_116 : decode cX11_meets 116 = .ok (.invokevirtual 220, 3) := by decide +kernel
theorem dX11_meets_119 : decode cX11_meets 119 = .ok (.aload_n 0, 1) := by decide +kernel
theorem dX11_meets_120 : decode cX11_meets 120 = .ok (.getfield 51, 3) := by decide +kernel
theorem dX11_meets_123 : decode cX11_meets 123 = .ok (.iload_n 1, 1) := by decide +kernel
theorem dX11_meets_124 : decode cX11_meets 124 = .ok (.iload_n 2, 1) := by decide +kernel
theorem dX11_meets_125 : decode cX11_meets 125 = .ok (.invokevirtual 200, 3) := by decide +kernel
theorem dX11_meets_128 : decode cX11_meets 128 = .ok (.ireturn, 1) := by decide +kernel
set_option maxRecDepth 20000 in
theorem ggX11_loosen_X5_hasGlove : GoodIn wsX11_loosen wsX5_hasGlove := goodIn_r _ [8, 9, 69, 70, 71, 72, 73, 74, 75, 76, 77, 78] rfl rfl
set_option maxRecDepth 20000 in
theorem gX11_loosen_X5_hasGlove : GoodIn wsX11_loosen (wsV RX11 155 RX5 yX5_hasGlove wsX5_hasGlove) := goodIn_app (goodIn_r _ [4, 5, 6, 7] rfl rfl) ggX11_loosen_X5_hasGlove
set_option maxRecDepth 20000 in
theorem ggX11_loosen_X11_refuse : GoodIn wsX11_loosen wsX11_refuse := goodIn_r _ [14, 15, 51, 52, 53, 54, 55, 56, 57, 58, 59, 60, 61, 62, 63, 64, 65, 66, 67, 68] rfl rfl
set_option maxRecDepth 20000 in
theorem gX11_loosen_X11_refuse : GoodIn wsX11_loosen (wsV RX11 210 RX11 yX11_refuse wsX11_refuse) := goodIn_app (goodIn_r _ [10, 11, 12, 13] rfl rfl) ggX11_loosen_X11_refuse
set_option maxRecDepth 20000 in
theorem ggX11_loosen_X9_free : GoodIn wsX11_loosen wsX9_free := goodIn_r _ [20, 21, 79, 80, 81] rfl rfl
set_option maxRecDepth 20000 in
theorem gX11_loosen_X9_free : GoodIn wsX11_loosen (wsV RX11 169 RX9 yX9_free wsX9_free) := goodIn_app (goodIn_r _ [16, 17, 18, 19] rfl rfl) ggX11_loosen_X9_free
set_option maxRecDepth 20000 in
theorem ggX11_loosen_X9_coins : GoodIn wsX11_loosen wsX9_coins := goodIn_r _ [25, 21, 79, 80, 81] rfl rfl
set_option maxRecDepth 20000 in
theorem gX11_loosen_X9_coins : GoodIn wsX11_loosen (wsV RX11 152 RX9 yX9_coins wsX9_coins) := goodIn_app (goodIn_r _ [22, 23, 24, 19] rfl rfl) ggX11_loosen_X9_coins
set_option maxRecDepth 20000 in
theorem ggX11_loosen_X0_keep : GoodIn wsX11_loosen wsX0_keep := goodIn_r _ [30, 31, 32, 33, 34, 35, 36, 37, 38, 39, 40, 41, 42, 79, 80, 81, 82, 83, 84] rfl rfl
set_option maxRecDepth 20000 in
theorem gX11_loosen_X0_keep : GoodIn wsX11_loosen (wsV RX11 213 RX0 yX0_keep wsX0_keep) := goodIn_app (goodIn_r _ [26, 27, 28, 29] rfl rfl) ggX11_loosen_X0_keep
set_option maxRecDepth 20000 in
theorem ggX11_loosen_X9_pay : GoodIn wsX11_loosen wsX9_pay := goodIn_r _ [46, 21, 79, 80, 81] rfl rfl
set_option maxRecDepth 20000 in
theorem gX11_loosen_X9_pay : GoodIn wsX11_loosen (wsV RX11 217 RX9 yX9_pay wsX9_pay) := goodIn_app (goodIn_r _ [43, 44, 45, 19] rfl rfl) ggX11_loosen_X9_pay
set_option maxRecDepth 20000 in
theorem ggX11_loosen_X9_setFree : GoodIn wsX11_loosen wsX9_setFree := goodIn_r _ [50, 21, 79, 80, 81] rfl rfl
set_option maxRecDepth 20000 in
theorem gX11_loosen_X9_setFree : GoodIn wsX11_loosen (wsV RX11 224 RX9 yX9_setFree wsX9_setFree) := goodIn_app (goodIn_r _ [47, 48, 49, 19] rfl rfl) ggX11_loosen_X9_setFree
theorem dX11_loosen_0 : decode cX11_loosen 0 = .ok (.aload_n 0, 1) := by decide +kernel
theorem dX11_loosen_1 : decode cX11_loosen 1 = .ok (.getfield 35, 3) := by decide +kernel
theorem dX11_loosen_4 : decode cX11_loosen 4 = .ok (.iload_n 1, 1) := by decide +kernel
theorem dX11_loosen_5 : decode cX11_loosen 5 = .ok (.invokevirtual 155, 3) := by decide +kernel
theorem dX11_loosen_8 : decode cX11_loosen 8 = .ok (.ifCond .ne 9, 3) := by decide +kernel
theorem dX11_loosen_11 : decode cX11_loosen 11 = .ok (.aload_n 0, 1) := by decide +kernel
theorem dX11_loosen_12 : decode cX11_loosen 12 = .ok (.iconst 0, 1) := by decide +kernel
theorem dX11_loosen_13 : decode cX11_loosen 13 = .ok (.invokevirtual 210, 3) := by decide +kernel
theorem dX11_loosen_16 : decode cX11_loosen 16 = .ok (.ireturn, 1) := by decide +kernel
theorem dX11_loosen_17 : decode cX11_loosen 17 = .ok (.aload_n 0, 1) := by decide +kernel
theorem dX11_loosen_18 : decode cX11_loosen 18 = .ok (.getfield 51, 3) := by decide +kernel
theorem dX11_loosen_21 : decode cX11_loosen 21 = .ok (.iload_n 1, 1) := by decide +kernel
theorem dX11_loosen_22 : decode cX11_loosen 22 = .ok (.invokevirtual 169, 3) := by decide +kernel
theorem dX11_loosen_25 : decode cX11_loosen 25 = .ok (.bipush 9, 2) := by decide +kernel
theorem dX11_loosen_27 : decode cX11_loosen 27 = .ok (.if_icmp .lt 9, 3) := by decide +kernel
theorem dX11_loosen_30 : decode cX11_loosen 30 = .ok (.aload_n 0, 1) := by decide +kernel
theorem dX11_loosen_31 : decode cX11_loosen 31 = .ok (.iconst 2, 1) := by decide +kernel
theorem dX11_loosen_32 : decode cX11_loosen 32 = .ok (.invokevirtual 210, 3) := by decide +kernel
theorem dX11_loosen_35 : decode cX11_loosen 35 = .ok (.ireturn, 1) := by decide +kernel
theorem dX11_loosen_36 : decode cX11_loosen 36 = .ok (.aload_n 0, 1) := by decide +kernel
theorem dX11_loosen_37 : decode cX11_loosen 37 = .ok (.getfield 51, 3) := by decide +kernel
theorem dX11_loosen_40 : decode cX11_loosen 40 = .ok (.invokevirtual 152, 3) := by decide +kernel
theorem dX11_loosen_43 : decode cX11_loosen 43 = .ok (.iconst 3, 1) := by decide +kernel
theorem dX11_loosen_44 : decode cX11_loosen 44 = .ok (.if_icmp .ge 9, 3) := by decide +kernel
theorem dX11_loosen_47 : decode cX11_loosen 47 = .ok (.aload_n 0, 1) := by decide +kernel
theorem dX11_loosen_48 : decode cX11_loosen 48 = .ok (.iconst 3, 1) := by decide +kernel
theorem dX11_loosen_49 : decode cX11_loosen 49 = .ok (.invokevirtual 210, 3) := by decide +kernel
theorem dX11_loosen_52 : decode cX11_loosen 52 = .ok (.ireturn, 1) := by decide +kernel
theorem dX11_loosen_53 : decode cX11_loosen 53 = .ok (.aload_n 0, 1) := by decide +kernel
theorem dX11_loosen_54 : decode cX11_loosen 54 = .ok (.getfield 68, 3) := by decide +kernel
theorem dX11_loosen_57 : decode cX11_loosen 57 = .ok (.aload_n 0, 1) := by decide +kernel
theorem dX11_loosen_58 : decode cX11_loosen 58 = .ok (.getfield 51, 3) := by decide +kernel
theorem dX11_loosen_61 : decode cX11_loosen 61 = .ok (.invokevirtual 213, 3) := by decide +kernel
theorem dX11_loosen_64 : decode cX11_loosen 64 = .ok (.aload_n 0, 1) := by decide +kernel
theorem dX11_loosen_65 : decode cX11_loosen 65 = .ok (.getfield 51, 3) := by decide +kernel
theorem dX11_loosen_68 : decode cX11_loosen 68 = .ok (.iconst 3, 1) := by decide +kernel
theorem dX11_loosen_69 : decode cX11_loosen 69 = .ok (.invokevirtual 217, 3) := by decide +kernel
theorem dX11_loosen_72 : decode cX11_loosen 72 = .ok (.aload_n 0, 1) := by decide +kernel
theorem dX11_loosen_73 : decode cX11_loosen 73 = .ok (.getfield 51, 3) := by decide +kernel
theorem dX11_loosen_76 : decode cX11_loosen 76 = .ok (.iload_n 1, 1) := by decide +kernel
theorem dX11_loosen_77 : decode cX11_loosen 77 = .ok (.aload_n 0, 1) := by decide +kernel
theorem dX11_loosen_78 : decode cX11_loosen 78 = .ok (.getfield 51, 3) := by decide +kernel
theorem dX11_loosen_81 : decode cX11_loosen 81 = .ok (.iload_n 1, 1) := by decide +kernel
theorem dX11_loosen_82 : decode cX11_loosen 82 = .ok (.invokevirtual 169, 3) := by decide +kernel
theorem dX11_loosen_85 : decode cX11_loosen 85 = .ok (.iconst 1, 1) := by decide +kernel
theorem dX11_loosen_86 : decode cX11_loosen 86 = .ok (.iadd, 1) := by decide +kernel
theorem dX11_loosen_87 : decode cX11_loosen 87 = .ok (.invokevirtual 224, 3) := by decide +kernel
theorem dX11_loosen_90 : decode cX11_loosen 90 = .ok (.aload_n 0, 1) := by decide +kernel
theorem dX11_loosen_91 : decode cX11_loosen 91 = .ok (.getfield 51, 3) := by decide +kernel
theorem dX11_loosen_94 : decode cX11_loosen 94 = .ok (.iload_n 1, 1) := by decide +kernel
theorem dX11_loosen_95 : decode cX11_loosen 95 = .ok (.invokevirtual 169, 3) := by decide +kernel
theorem dX11_loosen_98 : decode cX11_loosen 98 = .ok (.ireturn, 1) := by decide +kernel
set_option maxRecDepth 20000 in
theorem ggX11_stuff_X5_hasGlove : GoodIn wsX11_stuff wsX5_hasGlove := goodIn_r _ [8, 9, 69, 70, 71, 72, 73, 74, 75, 76, 77, 78] rfl rfl
set_option maxRecDepth 20000 in
theorem gX11_stuff_X5_hasGlove : GoodIn wsX11_stuff (wsV RX11 155 RX5 yX5_hasGlove wsX5_hasGlove) := goodIn_app (goodIn_r _ [4, 5, 6, 7] rfl rfl) ggX11_stuff_X5_hasGlove
set_option maxRecDepth 20000 in
theorem ggX11_stuff_X11_refuse : GoodIn wsX11_stuff wsX11_refuse := goodIn_r _ [14, 15, 51, 52, 53, 54, 55, 56, 57, 58, 59, 60, 61, 62, 63, 64, 65, 66, 67, 68] rfl rfl
set_option maxRecDepth 20000 in
theorem gX11_stuff_X11_refuse : GoodIn wsX11_stuff (wsV RX11 210 RX11 yX11_refuse wsX11_refuse) := goodIn_app (goodIn_r _ [10, 11, 12, 13] rfl rfl) ggX11_stuff_X11_refuse
set_option maxRecDepth 20000 in
theorem ggX11_stuff_X9_stuffed : GoodIn wsX11_stuff wsX9_stuffed := goodIn_r _ [20, 21, 79, 80, 81] rfl rfl
set_option maxRecDepth 20000 in
theorem gX11_stuff_X9_stuffed : GoodIn wsX11_stuff (wsV RX11 172 RX9 yX9_stuffed wsX9_stuffed) := goodIn_app (goodIn_r _ [16, 17, 18, 19] rfl rfl) ggX11_stuff_X9_stuffed
set_option maxRecDepth 20000 in
theorem ggX11_stuff_X9_coins : GoodIn wsX11_stuff wsX9_coins := goodIn_r _ [25, 21, 79, 80, 81] rfl rfl
set_option maxRecDepth 20000 in
theorem gX11_stuff_X9_coins : GoodIn wsX11_stuff (wsV RX11 152 RX9 yX9_coins wsX9_coins) := goodIn_app (goodIn_r _ [22, 23, 24, 19] rfl rfl) ggX11_stuff_X9_coins
set_option maxRecDepth 20000 in
theorem ggX11_stuff_X0_keep : GoodIn wsX11_stuff wsX0_keep := goodIn_r _ [30, 31, 32, 33, 34, 35, 36, 37, 38, 39, 40, 41, 42, 79, 80, 81, 82, 83, 84] rfl rfl
set_option maxRecDepth 20000 in
theorem gX11_stuff_X0_keep : GoodIn wsX11_stuff (wsV RX11 213 RX0 yX0_keep wsX0_keep) := goodIn_app (goodIn_r _ [26, 27, 28, 29] rfl rfl) ggX11_stuff_X0_keep
set_option maxRecDepth 20000 in
theorem ggX11_stuff_X9_pay : GoodIn wsX11_stuff wsX9_pay := goodIn_r _ [46, 21, 79, 80, 81] rfl rfl
set_option maxRecDepth 20000 in
theorem gX11_stuff_X9_pay : GoodIn wsX11_stuff (wsV RX11 217 RX9 yX9_pay wsX9_pay) := goodIn_app (goodIn_r _ [43, 44, 45, 19] rfl rfl) ggX11_stuff_X9_pay
set_option maxRecDepth 20000 in
theorem ggX11_stuff_X9_setStuffed : GoodIn wsX11_stuff wsX9_setStuffed := goodIn_r _ [50, 21, 79, 80, 81] rfl rfl
set_option maxRecDepth 20000 in
theorem gX11_stuff_X9_setStuffed : GoodIn wsX11_stuff (wsV RX11 227 RX9 yX9_setStuffed wsX9_setStuffed) := goodIn_app (goodIn_r _ [47, 48, 49, 19] rfl rfl) ggX11_stuff_X9_setStuffed
theorem dX11_stuff_0 : decode cX11_stuff 0 = .ok (.aload_n 0, 1) := by decide +kernel
theorem dX11_stuff_1 : decode cX11_stuff 1 = .ok (.getfield 35, 3) := by decide +kernel
theorem dX11_stuff_4 : decode cX11_stuff 4 = .ok (.iload_n 1, 1) := by decide +kernel
theorem dX11_stuff_5 : decode cX11_stuff 5 = .ok (.invokevirtual 155, 3) := by decide +kernel
theorem dX11_stuff_8 : decode cX11_stuff 8 = .ok (.ifCond .ne 9, 3) := by decide +kernel
theorem dX11_stuff_11 : decode cX11_stuff 11 = .ok (.aload_n 0, 1) := by decide +kernel
theorem dX11_stuff_12 : decode cX11_stuff 12 = .ok (.iconst 0, 1) := by decide +kernel
theorem dX11_stuff_13 : decode cX11_stuff 13 = .ok (.invokevirtual 210, 3) := by decide +kernel
theorem dX11_stuff_16 : decode cX11_stuff 16 = .ok (.ireturn, 1) := by decide +kernel
theorem dX11_stuff_17 : decode cX11_stuff 17 = .ok (.iload_n 2, 1) := by decide +kernel
theorem dX11_stuff_18 : decode cX11_stuff 18 = .ok (.ifCond .lt 9, 3) := by decide +kernel
theorem dX11_stuff_21 : decode cX11_stuff 21 = .ok (.iload_n 2, 1) := by decide +kernel
theorem dX11_stuff_22 : decode cX11_stuff 22 = .ok (.bipush 9, 2) := by decide +kernel
theorem dX11_stuff_24 : decode cX11_stuff 24 = .ok (.if_icmp .le 9, 3) := by decide +kernel
theorem dX11_stuff_27 : decode cX11_stuff 27 = .ok (.aload_n 0, 1) := by decide +kernel
theorem dX11_stuff_28 : decode cX11_stuff 28 = .ok (.iconst 1, 1) := by decide +kernel
theorem dX11_stuff_29 : decode cX11_stuff 29 = .ok (.invokevirtual 210, 3) := by decide +kernel
theorem dX11_stuff_32 : decode cX11_stuff 32 = .ok (.ireturn, 1) := by decide +kernel
theorem dX11_stuff_33 : decode cX11_stuff 33 = .ok (.aload_n 0, 1) := by decide +kernel
theorem dX11_stuff_34 : decode cX11_stuff 34 = .ok (.getfield 51, 3) := by decide +kernel
theorem dX11_stuff_37 : decode cX11_stuff 37 = .ok (.iload_n 1, 1) := by decide +kernel
theorem dX11_stuff_38 : decode cX11_stuff 38 = .ok (.invokevirtual 172, 3) := by decide +kernel
theorem dX11_stuff_41 : decode cX11_stuff 41 = .ok (.istore_n 3, 1) := by decide +kernel
theorem dX11_stuff_42 : decode cX11_stuff 42 = .ok (.iload_n 3, 1) := by decide +kernel
theorem dX11_stuff_43 : decode cX11_stuff 43 = .ok (.iload_n 2, 1) := by decide +kernel
theorem dX11_stuff_44 : decode cX11_stuff 44 = .ok (.if_icmp .ne 9, 3) := by decide +kernel
theorem dX11_stuff_47 : decode cX11_stuff 47 = .ok (.aload_n 0, 1) := by decide +kernel
theorem dX11_stuff_48 : decode cX11_stuff 48 = .ok (.iconst 2, 1) := by decide +kernel
theorem dX11_stuff_49 : decode cX11_stuff 49 = .ok (.invokevirtual 210, 3) := by decide +kernel
theorem dX11_stuff_52 : decode cX11_stuff 52 = .ok (.ireturn, 1) := by decide +kernel
theorem dX11_stuff_53 : decode cX11_stuff 53 = .ok (.aload_n 0, 1) := by decide +kernel
theorem dX11_stuff_54 : decode cX11_stuff 54 = .ok (.getfield 51, 3) := by decide +kernel
theorem dX11_stuff_57 : decode cX11_stuff 57 = .ok (.invokevirtual 152, 3) := by decide +kernel
theorem dX11_stuff_60 : decode cX11_stuff 60 = .ok (.iconst 2, 1) := by decide +kernel
theorem dX11_stuff_61 : decode cX11_stuff 61 = .ok (.if_icmp .ge 9, 3) := by decide +kernel
theorem dX11_stuff_64 : decode cX11_stuff 64 = .ok (.aload_n 0, 1) := by decide +kernel
theorem dX11_stuff_65 : decode cX11_stuff 65 = .ok (.iconst 3, 1) := by decide +kernel
theorem dX11_stuff_66 : decode cX11_stuff 66 = .ok (.invokevirtual 210, 3) := by decide +kernel
theorem dX11_stuff_69 : decode cX11_stuff 69 = .ok (.ireturn, 1) := by decide +kernel
theorem dX11_stuff_70 : decode cX11_stuff 70 = .ok (.aload_n 0, 1) := by decide +kernel
theorem dX11_stuff_71 : decode cX11_stuff 71 = .ok (.getfield 68, 3) := by decide +kernel
theorem dX11_stuff_74 : decode cX11_stuff 74 = .ok (.aload_n 0, 1) := by decide +kernel
theorem dX11_stuff_75 : decode cX11_stuff 75 = .ok (.getfield 51, 3) := by decide +kernel
theorem dX11_stuff_78 : decode cX11_stuff 78 = .ok (.invokevirtual 213, 3) := by decide +kernel
theorem dX11_stuff_81 : decode cX11_stuff 81 = .ok (.aload_n 0, 1) := by decide +kernel
theorem dX11_stuff_82 : decode cX11_stuff 82 = .ok (.getfield 51, 3) := by decide +kernel
theorem dX11_stuff_85 : decode cX11_stuff 85 = .ok (.iconst 2, 1) := by decide +kernel
theorem dX11_stuff_86 : decode cX11_stuff 86 = .ok (.invokevirtual 217, 3) := by decide +kernel
theorem dX11_stuff_89 : decode cX11_stuff 89 = .ok (.aload_n 0, 1) := by decide +kernel
theorem dX11_stuff_90 : decode cX11_stuff 90 = .ok (.getfield 51, 3) := by decide +kernel
theorem dX11_stuff_93 : decode cX11_stuff 93 = .ok (.iload_n 1, 1) := by decide +kernel
theorem dX11_stuff_94 : decode cX11_stuff 94 = .ok (.iload_n 2, 1) := by decide +kernel
theorem dX11_stuff_95 : decode cX11_stuff 95 = .ok (.invokevirtual 227, 3) := by decide +kernel
theorem dX11_stuff_98 : decode cX11_stuff 98 = .ok (.iload_n 3, 1) := by decide +kernel
theorem dX11_stuff_99 : decode cX11_stuff 99 = .ok (.ireturn, 1) := by decide +kernel
set_option maxRecDepth 20000 in
theorem ggX11_swallow_X11_noPeace : GoodIn wsX11_swallow wsX11_noPeace := goodIn_r _ [7, 8, 9, 50, 51, 52, 53, 54, 55, 56, 57, 58, 59, 60, 61, 62, 63, 64, 65, 66, 67, 68, 69, 70, 71, 72, 73, 74, 75, 76, 77] rfl rfl
set_option maxRecDepth 20000 in
theorem gX11_swallow_X11_noPeace : GoodIn wsX11_swallow (wsV RX11 146 RX11 yX11_noPeace wsX11_noPeace) := goodIn_app (goodIn_r _ [3, 4, 5, 6] rfl rfl) ggX11_swallow_X11_noPeace
set_option maxRecDepth 20000 in
theorem ggX11_swallow_X11_refuse : GoodIn wsX11_swallow wsX11_refuse := goodIn_r _ [13, 14, 50, 51, 52, 53, 54, 55, 56, 57, 58, 59, 60, 61, 62, 63, 64, 65, 66, 67] rfl rfl
set_option maxRecDepth 20000 in
theorem gX11_swallow_X11_refuse : GoodIn wsX11_swallow (wsV RX11 210 RX11 yX11_refuse wsX11_refuse) := goodIn_app (goodIn_r _ [10, 11, 12, 6] rfl rfl) ggX11_swallow_X11_refuse
set_option maxRecDepth 20000 in
theorem ggX11_swallow_X9_pride : GoodIn wsX11_swallow wsX9_pride := goodIn_r _ [19, 20, 78, 79, 80] rfl rfl
set_option maxRecDepth 20000 in
theorem gX11_swallow_X9_pride : GoodIn wsX11_swallow (wsV RX11 149 RX9 yX9_pride wsX9_pride) := goodIn_app (goodIn_r _ [15, 16, 17, 18] rfl rfl) ggX11_swallow_X9_pride
set_option maxRecDepth 20000 in
theorem ggX11_swallow_X9_coins : GoodIn wsX11_swallow wsX9_coins := goodIn_r _ [24, 20, 78, 79, 80] rfl rfl
set_option maxRecDepth 20000 in
theorem gX11_swallow_X9_coins : GoodIn wsX11_swallow (wsV RX11 152 RX9 yX9_coins wsX9_coins) := goodIn_app (goodIn_r _ [21, 22, 23, 18] rfl rfl) ggX11_swallow_X9_coins
set_option maxRecDepth 20000 in
theorem ggX11_swallow_X0_keep : GoodIn wsX11_swallow wsX0_keep := goodIn_r _ [29, 30, 31, 32, 33, 34, 35, 36, 37, 38, 39, 40, 41, 78, 79, 80, 81, 82, 83] rfl rfl
set_option maxRecDepth 20000 in
theorem gX11_swallow_X0_keep : GoodIn wsX11_swallow (wsV RX11 213 RX0 yX0_keep wsX0_keep) := goodIn_app (goodIn_r _ [25, 26, 27, 28] rfl rfl) ggX11_swallow_X0_keep
set_option maxRecDepth 20000 in
theorem ggX11_swallow_X9_pay : GoodIn wsX11_swallow wsX9_pay := goodIn_r _ [45, 20, 78, 79, 80] rfl rfl
set_option maxRecDepth 20000 in
theorem gX11_swallow_X9_pay : GoodIn wsX11_swallow (wsV RX11 217 RX9 yX9_pay wsX9_pay) := goodIn_app (goodIn_r _ [42, 43, 44, 18] rfl rfl) ggX11_swallow_X9_pay
set_option maxRecDepth 20000 in
theorem ggX11_swallow_X9_setPride : GoodIn wsX11_swallow wsX9_setPride := goodIn_r _ [49, 20, 78, 79, 80] rfl rfl
set_option maxRecDepth 20000 in
theorem gX11_swallow_X9_setPride : GoodIn wsX11_swallow (wsV RX11 230 RX9 yX9_setPride wsX9_setPride) := goodIn_app (goodIn_r _ [46, 47, 48, 18] rfl rfl) ggX11_swallow_X9_setPride
theorem dX11_swallow_0 : decode cX11_swallow 0 = .ok (.aload_n 0, 1) := by decide +kernel
theorem dX11_swallow_1 : decode cX11_swallow 1 = .ok (.invokevirtual 146, 3) := by decide +kernel
theorem dX11_swallow_4 : decode cX11_swallow 4 = .ok (.ifCond .eq 9, 3) := by decide +kernel
theorem dX11_swallow_7 : decode cX11_swallow 7 = .ok (.aload_n 0, 1) := by decide +kernel
theorem dX11_swallow_8 : decode cX11_swallow 8 = .ok (.iconst 0, 1) := by decide +kernel
theorem dX11_swallow_9 : decode cX11_swallow 9 = .ok (.invokevirtual 210, 3) := by decide +kernel
theorem dX11_swallow_12 : decode cX11_swallow 12 = .ok (.ireturn, 1) := by decide +kernel
theorem dX11_swallow_13 : decode cX11_swallow 13 = .ok (.aload_n 0, 1) := by decide +kernel
theorem dX11_swallow_14 : decode cX11_swallow 14 = .ok (.getfield 51, 3) := by decide +kernel
theorem dX11_swallow_17 : decode cX11_swallow 17 = .ok (.invokevirtual 149, 3) := by decide +kernel
theorem dX11_swallow_20 : decode cX11_swallow 20 = .ok (.ifCond .ne 9, 3) := by decide +kernel
theorem dX11_swallow_23 : decode cX11_swallow 23 = .ok (.aload_n 0, 1) := by decide +kernel
theorem dX11_swallow_24 : decode cX11_swallow 24 = .ok (.iconst 2, 1) := by decide +kernel
theorem dX11_swallow_25 : decode cX11_swallow 25 = .ok (.invokevirtual 210, 3) := by decide +kernel
theorem dX11_swallow_28 : decode cX11_swallow 28 = .ok (.ireturn, 1) := by decide +kernel
theorem dX11_swallow_29 : decode cX11_swallow 29 = .ok (.aload_n 0, 1) := by decide +kernel
theorem dX11_swallow_30 : decode cX11_swallow 30 = .ok (.getfield 51, 3) := by decide +kernel
theorem dX11_swallow_33 : decode cX11_swallow 33 = .ok (.invokevirtual 152, 3) := by decide +kernel
theorem dX11_swallow_36 : decode cX11_swallow 36 = .ok (.iconst 4, 1) := by decide +kernel
theorem dX11_swallow_37 : decode cX11_swallow 37 = .ok (.if_icmp .ge 9, 3) := by decide +kernel
theorem dX11_swallow_40 : decode cX11_swallow 40 = .ok (.aload_n 0, 1) := by decide +kernel
theorem dX11_swallow_41 : decode cX11_swallow 41 = .ok (.iconst 3, 1) := by decide +kernel
theorem dX11_swallow_42 : decode cX11_swallow 42 = .ok (.invokevirtual 210, 3) := by decide +kernel
theorem dX11_swallow_45 : decode cX11_swallow 45 = .ok (.ireturn, 1) := by decide +kernel
theorem dX11_swallow_46 : decode cX11_swallow 46 = .ok (.aload_n 0, 1) := by decide +kernel
theorem dX11_swallow_47 : decode cX11_swallow 47 = .ok (.getfield 68, 3) := by decide +kernel
theorem dX11_swallow_50 : decode cX11_swallow 50 = .ok (.aload_n 0, 1) := by decide +kernel
theorem dX11_swallow_51 : decode cX11_swallow 51 = .ok (.getfield 51, 3) := by decide +kernel
theorem dX11_swallow_54 : decode cX11_swallow 54 = .ok (.invokevirtual 213, 3) := by decide +kernel
theorem dX11_swallow_57 : decode cX11_swallow 57 = .ok (.aload_n 0, 1) := by decide +kernel
theorem dX11_swallow_58 : decode cX11_swallow 58 = .ok (.getfield 51, 3) := by decide +kernel
theorem dX11_swallow_61 : decode cX11_swallow 61 = .ok (.iconst 4, 1) := by decide +kernel
theorem dX11_swallow_62 : decode cX11_swallow 62 = .ok (.invokevirtual 217, 3) := by decide +kernel
theorem dX11_swallow_65 : decode cX11_swallow 65 = .ok (.aload_n 0, 1) := by decide +kernel
theorem dX11_swallow_66 : decode cX11_swallow 66 = .ok (.getfield 51, 3) := by decide +kernel
theorem dX11_swallow_69 : decode cX11_swallow 69 = .ok (.aload_n 0, 1) := by decide +kernel
theorem dX11_swallow_70 : decode cX11_swallow 70 = .ok (.getfield 51, 3) := by decide +kernel
theorem dX11_swallow_73 : decode cX11_swallow 73 = .ok (.invokevirtual 149, 3) := by decide +kernel
theorem dX11_swallow_76 : decode cX11_swallow 76 = .ok (.iconst 1, 1) := by decide +kernel
theorem dX11_swallow_77 : decode cX11_swallow 77 = .ok (.isub, 1) := by decide +kernel
theorem dX11_swallow_78 : decode cX11_swallow 78 = .ok (.invokevirtual 230, 3) := by decide +kernel
theorem dX11_swallow_81 : decode cX11_swallow 81 = .ok (.aload_n 0, 1) := by decide +kernel
theorem dX11_swallow_82 : decode cX11_swallow 82 = .ok (.getfield 51, 3) := by decide +kernel
theorem dX11_swallow_85 : decode cX11_swallow 85 = .ok (.invokevirtual 149, 3) := by decide +kernel
theorem dX11_swallow_88 : decode cX11_swallow 88 = .ok (.ireturn, 1) := by decide +kernel
set_option maxRecDepth 20000 in
theorem ggX11_tear_X5_hasMatter : GoodIn wsX11_tear wsX5_hasMatter := goodIn_r _ [8, 9, 70, 71, 72, 73, 74, 75, 76, 77, 78, 79] rfl rfl
set_option maxRecDepth 20000 in
theorem gX11_tear_X5_hasMatter : GoodIn wsX11_tear (wsV RX11 184 RX5 yX5_hasMatter wsX5_hasMatter) := goodIn_app (goodIn_r _ [4, 5, 6, 7] rfl rfl) ggX11_tear_X5_hasMatter
set_option maxRecDepth 20000 in
theorem ggX11_tear_X11_refuse : GoodIn wsX11_tear wsX11_refuse := goodIn_r _ [14, 15, 52, 53, 54, 55, 56, 57, 58, 59, 60, 61, 62, 63, 64, 65, 66, 67, 68, 69] rfl rfl
set_option maxRecDepth 20000 in
theorem gX11_tear_X11_refuse : GoodIn wsX11_tear (wsV RX11 210 RX11 yX11_refuse wsX11_refuse) := goodIn_app (goodIn_r _ [10, 11, 12, 13] rfl rfl) ggX11_tear_X11_refuse
set_option maxRecDepth 20000 in
theorem ggX11_tear_X9_signers : GoodIn wsX11_tear wsX9_signers := goodIn_r _ [20, 21, 80, 81, 82] rfl rfl
set_option maxRecDepth 20000 in
theorem gX11_tear_X9_signers : GoodIn wsX11_tear (wsV RX11 187 RX9 yX9_signers wsX9_signers) := goodIn_app (goodIn_r _ [16, 17, 18, 19] rfl rfl) ggX11_tear_X9_signers
set_option maxRecDepth 20000 in
theorem ggX11_tear_X0_keep : GoodIn wsX11_tear wsX0_keep := goodIn_r _ [26, 27, 28, 29, 30, 31, 32, 33, 34, 35, 36, 37, 38, 80, 81, 82, 83, 84, 85] rfl rfl
set_option maxRecDepth 20000 in
theorem gX11_tear_X0_keep : GoodIn wsX11_tear (wsV RX11 213 RX0 yX0_keep wsX0_keep) := goodIn_app (goodIn_r _ [22, 23, 24, 25] rfl rfl) ggX11_tear_X0_keep
set_option maxRecDepth 20000 in
theorem ggX11_tear_X9_tearUp : GoodIn wsX11_tear wsX9_tearUp := goodIn_r _ [42, 21, 80, 81, 82] rfl rfl
set_option maxRecDepth 20000 in
theorem gX11_tear_X9_tearUp : GoodIn wsX11_tear (wsV RX11 233 RX9 yX9_tearUp wsX9_tearUp) := goodIn_app (goodIn_r _ [39, 40, 41, 19] rfl rfl) ggX11_tear_X9_tearUp
set_option maxRecDepth 20000 in
theorem ggX11_tear_X9_growProud : GoodIn wsX11_tear wsX9_growProud := goodIn_r _ [46, 21, 47, 36, 37, 38, 80, 81, 82] rfl rfl
set_option maxRecDepth 20000 in
theorem gX11_tear_X9_growProud : GoodIn wsX11_tear (wsV RX11 236 RX9 yX9_growProud wsX9_growProud) := goodIn_app (goodIn_r _ [43, 44, 45, 19] rfl rfl) ggX11_tear_X9_growProud
set_option maxRecDepth 20000 in
theorem ggX11_tear_X9_pride : GoodIn wsX11_tear wsX9_pride := goodIn_r _ [51, 21, 80, 81, 82] rfl rfl
set_option maxRecDepth 20000 in
theorem gX11_tear_X9_pride : GoodIn wsX11_tear (wsV RX11 149 RX9 yX9_pride wsX9_pride) := goodIn_app (goodIn_r _ [48, 49, 50, 19] rfl rfl) ggX11_tear_X9_pride
theorem dX11_tear_0 : decode cX11_tear 0 = .ok (.aload_n 0, 1) := by decide +kernel
theorem dX11_tear_1 : decode cX11_tear 1 = .ok (.getfield 35, 3) := by decide +kernel
theorem dX11_tear_4 : decode cX11_tear 4 = .ok (.iload_n 1, 1) := by decide +kernel
theorem dX11_tear_5 : decode cX11_tear 5 = .ok (.invokevirtual 184, 3) := by decide +kernel
theorem dX11_tear_8 : decode cX11_tear 8 = .ok (.ifCond .ne 9, 3) := by decide +kernel
theorem dX11_tear_11 : decode cX11_tear 11 = .ok (.aload_n 0, 1) := by decide +kernel
theorem dX11_tear_12 : decode cX11_tear 12 = .ok (.iconst 0, 1) := by decide +kernel
theorem dX11_tear_13 : decode cX11_tear 13 = .ok (.invokevirtual 210, 3) := by decide +kernel
theorem dX11_tear_16 : decode cX11_tear 16 = .ok (.ireturn, 1) := by decide +kernel
theorem dX11_tear_17 : decode cX11_tear 17 = .ok (.aload_n 0, 1) := by decide +kernel
theorem dX11_tear_18 : decode cX11_tear 18 = .ok (.getfield 51, 3) := by decide +kernel
theorem dX11_tear_21 : decode cX11_tear 21 = .ok (.iload_n 1, 1) := by decide +kernel
theorem dX11_tear_22 : decode cX11_tear 22 = .ok (.invokevirtual 187, 3) := by decide +kernel
theorem dX11_tear_25 : decode cX11_tear 25 = .ok (.iconst (-1), 1) := by decide +kernel
theorem dX11_tear_26 : decode cX11_tear 26 = .ok (.if_icmp .ne 9, 3) := by decide +kernel
theorem dX11_tear_29 : decode cX11_tear 29 = .ok (.aload_n 0, 1) := by decide +kernel
theorem dX11_tear_30 : decode cX11_tear 30 = .ok (.iconst 2, 1) := by decide +kernel
theorem dX11_tear_31 : decode cX11_tear 31 = .ok (.invokevirtual 210, 3) := by decide +kernel
theorem dX11_tear_34 : decode cX11_tear 34 = .ok (.ireturn, 1) := by decide +kernel
theorem dX11_tear_35 : decode cX11_tear 35 = .ok (.aload_n 0, 1) := by decide +kernel
theorem dX11_tear_36 : decode cX11_tear 36 = .ok (.getfield 68, 3) := by decide +kernel
theorem dX11_tear_39 : decode cX11_tear 39 = .ok (.aload_n 0, 1) := by decide +kernel
theorem dX11_tear_40 : decode cX11_tear 40 = .ok (.getfield 51, 3) := by decide +kernel
theorem dX11_tear_43 : decode cX11_tear 43 = .ok (.invokevirtual 213, 3) := by decide +kernel
theorem dX11_tear_46 : decode cX11_tear 46 = .ok (.aload_n 0, 1) := by decide +kernel
theorem dX11_tear_47 : decode cX11_tear 47 = .ok (.getfield 51, 3) := by decide +kernel
theorem dX11_tear_50 : decode cX11_tear 50 = .ok (.iload_n 1, 1) := by decide +kernel
theorem dX11_tear_51 : decode cX11_tear 51 = .ok (.invokevirtual 233, 3) := by decide +kernel
theorem dX11_tear_54 : decode cX11_tear 54 = .ok (.aload_n 0, 1) := by decide +kernel
theorem dX11_tear_55 : decode cX11_tear 55 = .ok (.getfield 51, 3) := by decide +kernel
theorem dX11_tear_58 : decode cX11_tear 58 = .ok (.invokevirtual 236, 3) := by decide +kernel
theorem dX11_tear_61 : decode cX11_tear 61 = .ok (.aload_n 0, 1) := by decide +kernel
theorem dX11_tear_62 : decode cX11_tear 62 = .ok (.getfield 51, 3) := by decide +kernel
theorem dX11_tear_65 : decode cX11_tear 65 = .ok (.invokevirtual 149, 3) := by decide +kernel
theorem dX11_tear_68 : decode cX11_tear 68 = .ok (.ireturn, 1) := by decide +kernel
set_option maxRecDepth 20000 in
theorem ggX11_give_X11_noPeace : GoodIn wsX11_give wsX11_noPeace := goodIn_r _ [7, 8, 9, 42, 43, 44, 45, 46, 47, 48, 49, 50, 51, 52, 53, 54, 55, 56, 57, 58, 59, 60, 61, 62, 63, 64, 65, 66, 67, 68, 69] rfl rfl
set_option maxRecDepth 20000 in
theorem gX11_give_X11_noPeace : GoodIn wsX11_give (wsV RX11 146 RX11 yX11_noPeace wsX11_noPeace) := goodIn_app (goodIn_r _ [3, 4, 5, 6] rfl rfl) ggX11_give_X11_noPeace
set_option maxRecDepth 20000 in
theorem ggX11_give_X11_refuse : GoodIn wsX11_give wsX11_refuse := goodIn_r _ [13, 14, 42, 43, 44, 45, 46, 47, 48, 49, 50, 51, 52, 53, 54, 55, 56, 57, 58, 59] rfl rfl
set_option maxRecDepth 20000 in
theorem gX11_give_X11_refuse : GoodIn wsX11_give (wsV RX11 210 RX11 yX11_refuse wsX11_refuse) := goodIn_app (goodIn_r _ [10, 11, 12, 6] rfl rfl) ggX11_give_X11_refuse
set_option maxRecDepth 20000 in
theorem ggX11_give_X9_coins : GoodIn wsX11_give wsX9_coins := goodIn_r _ [19, 20, 70, 71, 72] rfl rfl
set_option maxRecDepth 20000 in
theorem gX11_give_X9_coins : GoodIn wsX11_give (wsV RX11 152 RX9 yX9_coins wsX9_coins) := goodIn_app (goodIn_r _ [15, 16, 17, 18] rfl rfl) ggX11_give_X9_coins
set_option maxRecDepth 20000 in
theorem ggX11_give_X0_keep : GoodIn wsX11_give wsX0_keep := goodIn_r _ [25, 26, 27, 28, 29, 30, 31, 32, 33, 34, 35, 36, 37, 70, 71, 72, 73, 74, 75] rfl rfl
set_option maxRecDepth 20000 in
theorem gX11_give_X0_keep : GoodIn wsX11_give (wsV RX11 213 RX0 yX0_keep wsX0_keep) := goodIn_app (goodIn_r _ [21, 22, 23, 24] rfl rfl) ggX11_give_X0_keep
set_option maxRecDepth 20000 in
theorem ggX11_give_X9_pay : GoodIn wsX11_give wsX9_pay := goodIn_r _ [41, 20, 70, 71, 72] rfl rfl
set_option maxRecDepth 20000 in
theorem gX11_give_X9_pay : GoodIn wsX11_give (wsV RX11 217 RX9 yX9_pay wsX9_pay) := goodIn_app (goodIn_r _ [38, 39, 40, 18] rfl rfl) ggX11_give_X9_pay
theorem dX11_give_0 : decode cX11_give 0 = .ok (.aload_n 0, 1) := by decide +kernel
theorem dX11_give_1 : decode cX11_give 1 = .ok (.invokevirtual 146, 3) := by decide +kernel
theorem dX11_give_4 : decode cX11_give 4 = .ok (.ifCond .eq 9, 3) := by decide +kernel
theorem dX11_give_7 : decode cX11_give 7 = .ok (.aload_n 0, 1) := by decide +kernel
theorem dX11_give_8 : decode cX11_give 8 = .ok (.iconst 0, 1) := by decide +kernel
theorem dX11_give_9 : decode cX11_give 9 = .ok (.invokevirtual 210, 3) := by decide +kernel
theorem dX11_give_12 : decode cX11_give 12 = .ok (.ireturn, 1) := by decide +kernel
theorem dX11_give_13 : decode cX11_give 13 = .ok (.iload_n 1, 1) := by decide +kernel
theorem dX11_give_14 : decode cX11_give 14 = .ok (.iconst 1, 1) := by decide +kernel
theorem dX11_give_15 : decode cX11_give 15 = .ok (.if_icmp .lt 24, 3) := by decide +kernel
theorem dX11_give_18 : decode cX11_give 18 = .ok (.iload_n 1, 1) := by decide +kernel
theorem dX11_give_19 : decode cX11_give 19 = .ok (.bipush 50, 2) := by decide +kernel
theorem dX11_give_21 : decode cX11_give 21 = .ok (.if_icmp .gt 18, 3) := by decide +kernel
theorem dX11_give_24 : decode cX11_give 24 = .ok (.aload_n 0, 1) := by decide +kernel
theorem dX11_give_25 : decode cX11_give 25 = .ok (.getfield 51, 3) := by decide +kernel
theorem dX11_give_28 : decode cX11_give 28 = .ok (.invokevirtual 152, 3) := by decide +kernel
theorem dX11_give_31 : decode cX11_give 31 = .ok (.iload_n 1, 1) := by decide +kernel
theorem dX11_give_32 : decode cX11_give 32 = .ok (.iadd, 1) := by decide +kernel
theorem dX11_give_33 : decode cX11_give 33 = .ok (.sipush 999, 3) := by decide +kernel
theorem dX11_give_36 : decode cX11_give 36 = .ok (.if_icmp .le 9, 3) := by decide +kernel
theorem dX11_give_39 : decode cX11_give 39 = .ok (.aload_n 0, 1) := by decide +kernel
theorem dX11_give_40 : decode cX11_give 40 = .ok (.iconst 1, 1) := by decide +kernel
theorem dX11_give_41 : decode cX11_give 41 = .ok (.invokevirtual 210, 3) := by decide +kernel
theorem dX11_give_44 : decode cX11_give 44 = .ok (.ireturn, 1) := by decide +kernel
theorem dX11_give_45 : decode cX11_give 45 = .ok (.aload_n 0, 1) := by decide +kernel
theorem dX11_give_46 : decode cX11_give 46 = .ok (.getfield 68, 3) := by decide +kernel
theorem dX11_give_49 : decode cX11_give 49 = .ok (.aload_n 0, 1) := by decide +kernel
theorem dX11_give_50 : decode cX11_give 50 = .ok (.getfield 51, 3) := by decide +kernel
theorem dX11_give_53 : decode cX11_give 53 = .ok (.invokevirtual 213, 3) := by decide +kernel
theorem dX11_give_56 : decode cX11_give 56 = .ok (.aload_n 0, 1) := by decide +kernel
theorem dX11_give_57 : decode cX11_give 57 = .ok (.getfield 51, 3) := by decide +kernel
theorem dX11_give_60 : decode cX11_give 60 = .ok (.iload_n 1, 1) := by decide +kernel
theorem dX11_give_61 : decode cX11_give 61 = .ok (.ineg, 1) := by decide +kernel
theorem dX11_give_62 : decode cX11_give 62 = .ok (.invokevirtual 217, 3) := by decide +kernel
theorem dX11_give_65 : decode cX11_give 65 = .ok (.aload_n 0, 1) := by decide +kernel
theorem dX11_give_66 : decode cX11_give 66 = .ok (.getfield 51, 3) := by decide +kernel
theorem dX11_give_69 : decode cX11_give 69 = .ok (.invokevirtual 152, 3) := by decide +kernel
theorem dX11_give_72 : decode cX11_give 72 = .ok (.ireturn, 1) := by decide +kernel
set_option maxRecDepth 20000 in
theorem ggX11_days_X11_noPeace : GoodIn wsX11_days wsX11_noPeace := goodIn_r _ [7, 8, 9, 86, 87, 88, 89, 90, 91, 92, 93, 94, 95, 96, 97, 98, 99, 100, 101, 102, 103, 104, 105, 106, 107, 108, 109, 110, 111, 112, 113] rfl rfl
set_option maxRecDepth 20000 in
theorem gX11_days_X11_noPeace : GoodIn wsX11_days (wsV RX11 146 RX11 yX11_noPeace wsX11_noPeace) := goodIn_app (goodIn_r _ [3, 4, 5, 6] rfl rfl) ggX11_days_X11_noPeace
set_option maxRecDepth 20000 in
theorem ggX11_days_X11_refuse : GoodIn wsX11_days wsX11_refuse := goodIn_r _ [13, 14, 86, 87, 88, 89, 90, 91, 92, 93, 94, 95, 96, 97, 98, 99, 100, 101, 102, 103] rfl rfl
set_option maxRecDepth 20000 in
theorem gX11_days_X11_refuse : GoodIn wsX11_days (wsV RX11 210 RX11 yX11_refuse wsX11_refuse) := goodIn_app (goodIn_r _ [10, 11, 12, 6] rfl rfl) ggX11_days_X11_refuse
set_option maxRecDepth 20000 in
theorem ggX11_days_X9_day : GoodIn wsX11_days wsX9_day := goodIn_r _ [19, 20, 114, 115, 116] rfl rfl
set_option maxRecDepth 20000 in
theorem gX11_days_X9_day : GoodIn wsX11_days (wsV RX11 239 RX9 yX9_day wsX9_day) := goodIn_app (goodIn_r _ [15, 16, 17, 18] rfl rfl) ggX11_days_X9_day
set_option maxRecDepth 20000 in
theorem ggX11_days_X0_keep : GoodIn wsX11_days wsX0_keep := goodIn_r _ [25, 26, 27, 28, 29, 30, 31, 32, 33, 34, 35, 36, 37, 114, 115, 116, 117, 118, 119] rfl rfl
set_option maxRecDepth 20000 in
theorem gX11_days_X0_keep : GoodIn wsX11_days (wsV RX11 213 RX0 yX0_keep wsX0_keep) := goodIn_app (goodIn_r _ [21, 22, 23, 24] rfl rfl) ggX11_days_X0_keep
set_option maxRecDepth 20000 in
theorem ggX11_days_X11_passDay : GoodIn wsX11_days wsX11_passDay := goodIn_r _ [41, 1, 42, 43, 44, 45, 18, 46, 47, 48, 20, 49, 35, 36, 37, 50, 51, 52, 15, 16, 17, 19, 53, 54, 55, 56, 57, 58, 59, 60, 61, 62, 63, 64, 65, 66, 67, 68, 69, 70, 71, 72, 73, 74, 75, 76, 77, 78, 79, 80, 81, 82, 83, 84, 85, 86, 87, 88, 89, 90, 91, 92, 93, 94, 95, 96, 97, 98, 99, 100, 101, 102, 103, 114, 115, 116, 104, 105, 106, 107, 108, 109, 110, 111, 112, 113, 120] rfl rfl
set_option maxRecDepth 20000 in
theorem gX11_days_X11_passDay : GoodIn wsX11_days (wsV RX11 242 RX11 yX11_passDay wsX11_passDay) := goodIn_app (goodIn_r _ [38, 39, 40, 6] rfl rfl) ggX11_days_X11_passDay
theorem dX11_days_0 : decode cX11_days 0 = .ok (.aload_n 0, 1) := by decide +kernel
theorem dX11_days_1 : decode cX11_days 1 = .ok (.invokevirtual 146, 3) := by decide +kernel
theorem dX11_days_4 : decode cX11_days 4 = .ok (.ifCond .eq 9, 3) := by decide +kernel
theorem dX11_days_7 : decode cX11_days 7 = .ok (.aload_n 0, 1) := by decide +kernel
theorem dX11_days_8 : decode cX11_days 8 = .ok (.iconst 0, 1) := by decide +kernel
theorem dX11_days_9 : decode cX11_days 9 = .ok (.invokevirtual 210, 3) := by decide +kernel
theorem dX11_days_12 : decode cX11_days 12 = .ok (.ireturn, 1) := by decide +kernel
theorem dX11_days_13 : decode cX11_days 13 = .ok (.iload_n 1, 1) := by decide +kernel
theorem dX11_days_14 : decode cX11_days 14 = .ok (.iconst 1, 1) := by decide +kernel
theorem dX11_days_15 : decode cX11_days 15 = .ok (.if_icmp .lt 9, 3) := by decide +kernel
theorem dX11_days_18 : decode cX11_days 18 = .ok (.iload_n 1, 1) := by decide +kernel
theorem dX11_days_19 : decode cX11_days 19 = .ok (.bipush 60, 2) := by decide +kernel
theorem dX11_days_21 : decode cX11_days 21 = .ok (.if_icmp .le 9, 3) := by decide +kernel
theorem dX11_days_24 : decode cX11_days 24 = .ok (.aload_n 0, 1) := by decide +kernel
theorem dX11_days_25 : decode cX11_days 25 = .ok (.iconst 1, 1) := by decide +kernel
theorem dX11_days_26 : decode cX11_days 26 = .ok (.invokevirtual 210, 3) := by decide +kernel
theorem dX11_days_29 : decode cX11_days 29 = .ok (.ireturn, 1) := by decide +kernel
theorem dX11_days_30 : decode cX11_days 30 = .ok (.aload_n 0, 1) := by decide +kernel
theorem dX11_days_31 : decode cX11_days 31 = .ok (.getfield 51, 3) := by decide +kernel
theorem dX11_days_34 : decode cX11_days 34 = .ok (.invokevirtual 239, 3) := by decide +kernel
theorem dX11_days_37 : decode cX11_days 37 = .ok (.iload_n 1, 1) := by decide +kernel
theorem dX11_days_38 : decode cX11_days 38 = .ok (.iadd, 1) := by decide +kernel
theorem dX11_days_39 : decode cX11_days 39 = .ok (.sipush 999, 3) := by decide +kernel
theorem dX11_days_42 : decode cX11_days 42 = .ok (.if_icmp .le 9, 3) := by decide +kernel
theorem dX11_days_45 : decode cX11_days 45 = .ok (.aload_n 0, 1) := by decide +kernel
theorem dX11_days_46 : decode cX11_days 46 = .ok (.iconst 4, 1) := by decide +kernel
theorem dX11_days_47 : decode cX11_days 47 = .ok (.invokevirtual 210, 3) := by decide +kernel
theorem dX11_days_50 : decode cX11_days 50 = .ok (.ireturn, 1) := by decide +kernel
theorem dX11_days_51 : decode cX11_days 51 = .ok (.iconst 0, 1) := by decide +kernel
theorem dX11_days_52 : decode cX11_days 52 = .ok (.istore_n 2, 1) := by decide +kernel
theorem dX11_days_53 : decode cX11_days 53 = .ok (.iload_n 2, 1) := by decide +kernel
theorem dX11_days_54 : decode cX11_days 54 = .ok (.iload_n 1, 1) := by decide +kernel
theorem dX11_days_55 : decode cX11_days 55 = .ok (.if_icmp .ge 24, 3) := by decide +kernel
theorem dX11_days_58 : decode cX11_days 58 = .ok (.aload_n 0, 1) := by decide +kernel
theorem dX11_days_59 : decode cX11_days 59 = .ok (.getfield 68, 3) := by decide +kernel
theorem dX11_days_62 : decode cX11_days 62 = .ok (.aload_n 0, 1) := by decide +kernel
theorem dX11_days_63 : decode cX11_days 63 = .ok (.getfield 51, 3) := by decide +kernel
theorem dX11_days_66 : decode cX11_days 66 = .ok (.invokevirtual 213, 3) := by decide +kernel
theorem dX11_days_69 : decode cX11_days 69 = .ok (.aload_n 0, 1) := by decide +kernel
theorem dX11_days_70 : decode cX11_days 70 = .ok (.invokevirtual 242, 3) := by decide +kernel
theorem dX11_days_73 : decode cX11_days 73 = .ok (.iinc 2 1, 3) := by decide +kernel
theorem dX11_days_76 : decode cX11_days 76 = .ok (.goto (-23), 3) := by decide +kernel
theorem dX11_days_79 : decode cX11_days 79 = .ok (.aload_n 0, 1) := by decide +kernel
theorem dX11_days_80 : decode cX11_days 80 = .ok (.getfield 51, 3) := by decide +kernel
theorem dX11_days_83 : decode cX11_days 83 = .ok (.invokevirtual 239, 3) := by decide +kernel
theorem dX11_days_86 : decode cX11_days 86 = .ok (.ireturn, 1) := by decide +kernel
theorem dX11_spite_0 : decode cX11_spite 0 = .ok (.iload_n 1, 1) := by decide +kernel
theorem dX11_spite_1 : decode cX11_spite 1 = .ok (.ifCond .lt 17, 3) := by decide +kernel
theorem dX11_spite_4 : decode cX11_spite 4 = .ok (.iload_n 1, 1) := by decide +kernel
theorem dX11_spite_5 : decode cX11_spite 5 = .ok (.bipush 9, 2) := by decide +kernel
theorem dX11_spite_7 : decode cX11_spite 7 = .ok (.if_icmp .gt 11, 3) := by decide +kernel
theorem dX11_spite_10 : decode cX11_spite 10 = .ok (.iload_n 1, 1) := by decide +kernel
theorem dX11_spite_11 : decode cX11_spite 11 = .ok (.aload_n 0, 1) := by decide +kernel
theorem dX11_spite_12 : decode cX11_spite 12 = .ok (.getfield 109, 3) := by decide +kernel
theorem dX11_spite_15 : decode cX11_spite 15 = .ok (.if_icmp .ne 5, 3) := by decide +kernel
theorem dX11_spite_18 : decode cX11_spite 18 = .ok (.iconst 0, 1) := by decide +kernel
theorem dX11_spite_19 : decode cX11_spite 19 = .ok (.ireturn, 1) := by decide +kernel
theorem dX11_spite_20 : decode cX11_spite 20 = .ok (.aload_n 0, 1) := by decide +kernel
theorem dX11_spite_21 : decode cX11_spite 21 = .ok (.iload_n 1, 1) := by decide +kernel
theorem dX11_spite_22 : decode cX11_spite 22 = .ok (.putfield 109, 3) := by decide +kernel
theorem dX11_spite_25 : decode cX11_spite 25 = .ok (.iconst 1, 1) := by decide +kernel
theorem dX11_spite_26 : decode cX11_spite 26 = .ok (.ireturn, 1) := by decide +kernel
set_option maxRecDepth 20000 in
theorem ggX11_years_X11_noPeace : GoodIn wsX11_years wsX11_noPeace := goodIn_r _ [9, 10, 11, 187, 188, 189, 190, 191, 192, 193, 194, 195, 196, 197, 198, 199, 200, 201, 202, 203, 204, 205, 206, 207, 208, 209, 210, 211, 212, 213, 214] rfl rfl
set_option maxRecDepth 20000 in
theorem gX11_years_X11_noPeace : GoodIn wsX11_years (wsV RX11 146 RX11 yX11_noPeace wsX11_noPeace) := goodIn_app (goodIn_r _ [5, 6, 7, 8] rfl rfl) ggX11_years_X11_noPeace
set_option maxRecDepth 20000 in
theorem ggX11_years_X9_day : GoodIn wsX11_years wsX9_day := goodIn_r _ [16, 17, 215, 216, 217] rfl rfl
set_option maxRecDepth 20000 in
theorem gX11_years_X9_day : GoodIn wsX11_years (wsV RX11 239 RX9 yX9_day wsX9_day) := goodIn_app (goodIn_r _ [12, 13, 14, 15] rfl rfl) ggX11_years_X9_day
set_option maxRecDepth 20000 in
theorem ggX11_years_X0_keep : GoodIn wsX11_years wsX0_keep := goodIn_r _ [22, 23, 24, 25, 26, 27, 28, 29, 30, 31, 32, 33, 34, 215, 216, 217, 218, 219, 220] rfl rfl
set_option maxRecDepth 20000 in
theorem gX11_years_X0_keep : GoodIn wsX11_years (wsV RX11 213 RX0 yX0_keep wsX0_keep) := goodIn_app (goodIn_r _ [18, 19, 20, 21] rfl rfl) ggX11_years_X0_keep
set_option maxRecDepth 20000 in
theorem ggX11_years_X11_drawMeeting : GoodIn wsX11_years wsX11_drawMeeting := goodIn_r _ [38, 10, 11, 1, 39, 40, 41, 8, 42, 2, 43, 44, 45, 46, 47, 48, 49, 50, 51, 52, 53, 54, 55, 56, 57, 58, 15, 59, 17, 60, 61, 62, 63, 64, 65, 66, 67, 68, 69, 70, 71, 72, 73, 74, 75, 32, 33, 34, 76, 77, 78, 79, 13, 14, 16, 80, 81, 82, 83, 84, 85, 86, 87, 88, 89, 90, 91, 92, 93, 94, 95, 96, 97, 98, 99, 100, 101, 102, 103, 104, 105, 106, 107, 108, 109, 110, 111, 112, 113, 114, 115, 116, 117, 118, 119, 120, 121, 122, 123, 124, 125, 126, 127, 128, 129, 130, 131, 132, 133, 134, 135, 136, 137, 138, 139, 140, 141, 142, 187, 188, 189, 190, 191, 192, 193, 194, 195, 196, 197, 198, 199, 200, 201, 202, 203, 204, 205, 206, 207, 208, 209, 210, 211, 212, 213, 214, 215, 216, 217, 221, 222, 223, 224, 225, 226] rfl rfl
set_option maxRecDepth 20000 in
theorem gX11_years_X11_drawMeeting : GoodIn wsX11_years (wsV RX11 245 RX11 yX11_drawMeeting wsX11_drawMeeting) := goodIn_app (goodIn_r _ [35, 36, 37, 8] rfl rfl) ggX11_years_X11_drawMeeting
set_option maxRecDepth 20000 in
theorem ggX11_years_X11_draw : GoodIn wsX11_years wsX11_draw := goodIn_r _ [42, 2, 43, 44, 187, 188, 189, 190, 191, 192, 193, 194, 195, 196, 197, 198, 199, 200, 201, 202, 203, 204] rfl rfl
set_option maxRecDepth 20000 in
theorem gX11_years_X11_draw : GoodIn wsX11_years (wsV RX11 248 RX11 yX11_draw wsX11_draw) := goodIn_app (goodIn_r _ [39, 40, 41, 8] rfl rfl) ggX11_years_X11_draw
set_option maxRecDepth 20000 in
theorem ggX11_years_X9_growProud : GoodIn wsX11_years wsX9_growProud := goodIn_r _ [146, 17, 75, 32, 33, 34, 215, 216, 217] rfl rfl
set_option maxRecDepth 20000 in
theorem gX11_years_X9_growProud : GoodIn wsX11_years (wsV RX11 236 RX9 yX9_growProud wsX9_growProud) := goodIn_app (goodIn_r _ [143, 144, 145, 15] rfl rfl) ggX11_years_X9_growProud
set_option maxRecDepth 20000 in
theorem ggX11_years_X11_passDay : GoodIn wsX11_years wsX11_passDay := goodIn_r _ [150, 1, 151, 152, 153, 154, 15, 155, 85, 156, 17, 75, 32, 33, 34, 64, 65, 66, 12, 13, 14, 16, 157, 158, 159, 160, 161, 57, 58, 59, 162, 163, 164, 165, 166, 167, 168, 169, 170, 171, 172, 173, 174, 175, 176, 177, 178, 179, 180, 181, 182, 183, 184, 185, 186, 187, 188, 189, 190, 191, 192, 193, 194, 195, 196, 197, 198, 199, 200, 201, 202, 203, 204, 215, 216, 217, 205, 206, 207, 208, 209, 210, 211, 212, 213, 214, 227] rfl rfl
set_option maxRecDepth 20000 in
theorem gX11_years_X11_passDay : GoodIn wsX11_years (wsV RX11 242 RX11 yX11_passDay wsX11_passDay) := goodIn_app (goodIn_r _ [147, 148, 149, 8] rfl rfl) ggX11_years_X11_passDay
theorem dX11_years_0 : decode cX11_years 0 = .ok (.aload_n 0, 1) := by decide +kernel
theorem dX11_years_1 : decode cX11_years 1 = .ok (.invokevirtual 146, 3) := by decide +kernel
theorem dX11_years_4 : decode cX11_years 4 = .ok (.ifCond .ne 29, 3) := by decide +kernel
theorem dX11_years_7 : decode cX11_years 7 = .ok (.iload_n 1, 1) := by decide +kernel
theorem dX11_years_8 : decode cX11_years 8 = .ok (.iconst 1, 1) := by decide +kernel
theorem dX11_years_9 : decode cX11_years 9 = .ok (.if_icmp .lt 24, 3) := by decide +kernel
theorem dX11_years_12 : decode cX11_years 12 = .ok (.iload_n 1, 1) := by decide +kernel
theorem dX11_years_13 : decode cX11_years 13 = .ok (.bipush 60, 2) := by decide +kernel
theorem dX11_years_15 : decode cX11_years 15 = .ok (.if_icmp .gt 18, 3) := by decide +kernel
theorem dX11_years_18 : decode cX11_years 18 = .ok (.aload_n 0, 1) := by decide +kernel
theorem dX11_years_19 : decode cX11_years 19 = .ok (.getfield 51, 3) := by decide +kernel
theorem dX11_years_22 : decode cX11_years 22 = .ok (.invokevirtual 239, 3) := by decide +kernel
theorem dX11_years_25 : decode cX11_years 25 = .ok (.iload_n 1, 1) := by decide +kernel
theorem dX11_years_26 : decode cX11_years 26 = .ok (.iadd, 1) := by decide +kernel
theorem dX11_years_27 : decode cX11_years 27 = .ok (.sipush 999, 3) := by decide +kernel
theorem dX11_years_30 : decode cX11_years 30 = .ok (.if_icmp .le 5, 3) := by decide +kernel
theorem dX11_years_33 : decode cX11_years 33 = .ok (.iconst (-1), 1) := by decide +kernel
theorem dX11_years_34 : decode cX11_years 34 = .ok (.ireturn, 1) := by decide +kernel
theorem dX11_years_35 : decode cX11_years 35 = .ok (.aload_n 0, 1) := by decide +kernel
theorem dX11_years_36 : decode cX11_years 36 = .ok (.lload_n 2, 1) := by decide +kernel
theorem dX11_years_37 : decode cX11_years 37 = .ok (.putfield 113, 3) := by decide +kernel
theorem dX11_years_40 : decode cX11_years 40 = .ok (.iconst 0, 1) := by decide +kernel
theorem dX11_years_41 : decode cX11_years 41 = .ok (.istore 4, 2) := by decide +kernel
theorem dX11_years_43 : decode cX11_years 43 = .ok (.iload 4, 2) := by decide +kernel
theorem dX11_years_45 : decode cX11_years 45 = .ok (.iload_n 1, 1) := by decide +kernel
theorem dX11_years_46 : decode cX11_years 46 = .ok (.if_icmp .ge 52, 3) := by decide +kernel
theorem dX11_years_49 : decode cX11_years 49 = .ok (.aload_n 0, 1) := by decide +kernel
theorem dX11_years_50 : decode cX11_years 50 = .ok (.getfield 68, 3) := by decide +kernel
theorem dX11_years_53 : decode cX11_years 53 = .ok (.aload_n 0, 1) := by decide +kernel
theorem dX11_years_54 : decode cX11_years 54 = .ok (.getfield 51, 3) := by decide +kernel
theorem dX11_years_57 : decode cX11_years 57 = .ok (.invokevirtual 213, 3) := by decide +kernel
theorem dX11_years_60 : decode cX11_years 60 = .ok (.aload_n 0, 1) := by decide +kernel
theorem dX11_years_61 : decode cX11_years 61 = .ok (.invokevirtual 245, 3) := by decide +kernel
theorem dX11_years_64 : decode cX11_years 64 = .ok (.aload_n 0, 1) := by decide +kernel
theorem dX11_years_65 : decode cX11_years 65 = .ok (.invokevirtual 245, 3) := by decide +kernel
theorem dX11_years_68 : decode cX11_years 68 = .ok (.aload_n 0, 1) := by decide +kernel
theorem dX11_years_69 : decode cX11_years 69 = .ok (.bipush 10, 2) := by decide +kernel
theorem dX11_years_71 : decode cX11_years 71 = .ok (.invokevirtual 248, 3) := by decide +kernel
theorem dX11_years_74 : decode cX11_years 74 = .ok (.aload_n 0, 1) := by decide +kernel
theorem dX11_years_75 : decode cX11_years 75 = .ok (.getfield 109, 3) := by decide +kernel
theorem dX11_years_78 : decode cX11_years 78 = .ok (.if_icmp .ge 10, 3) := by decide +kernel
theorem dX11_years_81 : decode cX11_years 81 = .ok (.aload_n 0, 1) := by decide +kernel
theorem dX11_years_82 : decode cX11_years 82 = .ok (.getfield 51, 3) := by decide +kernel
theorem dX11_years_85 : decode cX11_years 85 = .ok (.invokevirtual 236, 3) := by decide +kernel
theorem dX11_years_88 : decode cX11_years 88 = .ok (.aload_n 0, 1) := by decide +kernel
theorem dX11_years_89 : decode cX11_years 89 = .ok (.invokevirtual 242, 3) := by decide +kernel
theorem dX11_years_92 : decode cX11_years 92 = .ok (.iinc 4 1, 3) := by decide +kernel
theorem dX11_years_95 : decode cX11_years 95 = .ok (.goto (-52), 3) := by decide +kernel
theorem dX11_years_98 : decode cX11_years 98 = .ok (.aload_n 0, 1) := by decide +kernel
theorem dX11_years_99 : decode cX11_years 99 = .ok (.getfield 51, 3) := by decide +kernel
theorem dX11_years_102 : decode cX11_years 102 = .ok (.invokevirtual 239, 3) := by decide +kernel
theorem dX11_years_105 : decode cX11_years 105 = .ok (.ireturn, 1) := by decide +kernel
theorem dX11_status_0 : decode cX11_status 0 = .ok (.iload_n 1, 1) := by decide +kernel
theorem dX11_status_1 : decode cX11_status 1 = .ok (.ifCond .lt 8, 3) := by decide +kernel
theorem dX11_status_4 : decode cX11_status 4 = .ok (.iload_n 1, 1) := by decide +kernel
theorem dX11_status_5 : decode cX11_status 5 = .ok (.iconst 4, 1) := by decide +kernel
theorem dX11_status_6 : decode cX11_status 6 = .ok (.if_icmp .le 7, 3) := by decide +kernel
theorem dX11_status_9 : decode cX11_status 9 = .ok (.iconst (-1), 1) := by decide +kernel
theorem dX11_status_10 : decode cX11_status 10 = .ok (.goto 9, 3) := by decide +kernel
theorem dX11_status_13 : decode cX11_status 13 = .ok (.aload_n 0, 1) := by decide +kernel
theorem dX11_status_14 : decode cX11_status 14 = .ok (.getfield 101, 3) := by decide +kernel
theorem dX11_status_17 : decode cX11_status 17 = .ok (.iload_n 1, 1) := by decide +kernel
theorem dX11_status_18 : decode cX11_status 18 = .ok (.iaload, 1) := by decide +kernel
theorem dX11_status_19 : decode cX11_status 19 = .ok (.ireturn, 1) := by decide +kernel
set_option maxRecDepth 20000 in
theorem ggX11_undo_X0_takeBack : GoodIn wsX11_undo wsX0_takeBack := goodIn_r _ [8, 9, 10, 11, 12, 13, 14, 15, 16, 35, 36, 37, 38, 39, 40] rfl rfl
set_option maxRecDepth 20000 in
theorem gX11_undo_X0_takeBack : GoodIn wsX11_undo (wsV RX11 252 RX0 yX0_takeBack wsX0_takeBack) := goodIn_app (goodIn_r _ [4, 5, 6, 7] rfl rfl) ggX11_undo_X0_takeBack
theorem dX11_undo_0 : decode cX11_undo 0 = .ok (.aload_n 0, 1) := by decide +kernel
theorem dX11_undo_1 : decode cX11_undo 1 = .ok (.getfield 68, 3) := by decide +kernel
theorem dX11_undo_4 : decode cX11_undo 4 = .ok (.getfield 251, 3) := by decide +kernel
theorem dX11_undo_7 : decode cX11_undo 7 = .ok (.ifCond .ne 5, 3) := by decide +kernel
theorem dX11_undo_10 : decode cX11_undo 10 = .ok (.iconst (-1), 1) := by decide +kernel
theorem dX11_undo_11 : decode cX11_undo 11 = .ok (.ireturn, 1) := by decide +kernel
theorem dX11_undo_12 : decode cX11_undo 12 = .ok (.aload_n 0, 1) := by decide +kernel
theorem dX11_undo_13 : decode cX11_undo 13 = .ok (.getfield 68, 3) := by decide +kernel
theorem dX11_undo_16 : decode cX11_undo 16 = .ok (.aload_n 0, 1) := by decide +kernel
theorem dX11_undo_17 : decode cX11_undo 17 = .ok (.getfield 51, 3) := by decide +kernel
theorem dX11_undo_20 : decode cX11_undo 20 = .ok (.invokevirtual 252, 3) := by decide +kernel
theorem dX11_undo_23 : decode cX11_undo 23 = .ok (.aload_n 0, 1) := by decide +kernel
theorem dX11_undo_24 : decode cX11_undo 24 = .ok (.getfield 68, 3) := by decide +kernel
theorem dX11_undo_27 : decode cX11_undo 27 = .ok (.getfield 251, 3) := by decide +kernel
theorem dX11_undo_30 : decode cX11_undo 30 = .ok (.ireturn, 1) := by decide +kernel
set_option maxRecDepth 20000 in
theorem ggX11_log_X9_day : GoodIn wsX11_log wsX9_day := goodIn_r _ [7, 8, 40, 41, 42] rfl rfl
set_option maxRecDepth 20000 in
theorem gX11_log_X9_day : GoodIn wsX11_log (wsV RX11 239 RX9 yX9_day wsX9_day) := goodIn_app (goodIn_r _ [3, 4, 5, 6] rfl rfl) ggX11_log_X9_day
set_option maxRecDepth 20000 in
theorem ggX11_log_X3_lengthOn : GoodIn wsX11_log wsX3_lengthOn := goodIn_r _ [12, 13, 14, 15, 16] rfl rfl
set_option maxRecDepth 20000 in
theorem gX11_log_X3_lengthOn : GoodIn wsX11_log (va_wsS RX11 255 yX3_lengthOn wsX3_lengthOn) := goodIn_app (goodIn_r _ [9, 10, 11] rfl rfl) ggX11_log_X3_lengthOn
set_option maxRecDepth 20000 in
theorem ggX11_log_X3_read : GoodIn wsX11_log wsX3_read := goodIn_r _ [20, 21, 43] rfl rfl
set_option maxRecDepth 20000 in
theorem gX11_log_X3_read : GoodIn wsX11_log (wsV RX11 258 RX3 yX3_read wsX3_read) := goodIn_app (goodIn_r _ [17, 18, 19, 11] rfl rfl) ggX11_log_X3_read
theorem dX11_log_0 : decode cX11_log 0 = .ok (.iload_n 1, 1) := by decide +kernel
theorem dX11_log_1 : decode cX11_log 1 = .ok (.ifCond .lt 26, 3) := by decide +kernel
theorem dX11_log_4 : decode cX11_log 4 = .ok (.iload_n 1, 1) := by decide +kernel
theorem dX11_log_5 : decode cX11_log 5 = .ok (.aload_n 0, 1) := by decide +kernel
theorem dX11_log_6 : decode cX11_log 6 = .ok (.getfield 51, 3) := by decide +kernel
theorem dX11_log_9 : decode cX11_log 9 = .ok (.invokevirtual 239, 3) := by decide +kernel
theorem dX11_log_12 : decode cX11_log 12 = .ok (.invokestatic 255, 3) := by decide +kernel
theorem dX11_log_15 : decode cX11_log 15 = .ok (.if_icmp .ge 12, 3) := by decide +kernel
theorem dX11_log_18 : decode cX11_log 18 = .ok (.iload_n 2, 1) := by decide +kernel
theorem dX11_log_19 : decode cX11_log 19 = .ok (.ifCond .lt 8, 3) := by decide +kernel
theorem dX11_log_22 : decode cX11_log 22 = .ok (.iload_n 2, 1) := by decide +kernel
theorem dX11_log_23 : decode cX11_log 23 = .ok (.iconst 2, 1) := by decide +kernel
theorem dX11_log_24 : decode cX11_log 24 = .ok (.if_icmp .le 5, 3) := by decide +kernel
theorem dX11_log_27 : decode cX11_log 27 = .ok (.iconst (-1), 1) := by decide +kernel
theorem dX11_log_28 : decode cX11_log 28 = .ok (.ireturn, 1) := by decide +kernel
theorem dX11_log_29 : decode cX11_log 29 = .ok (.aload_n 0, 1) := by decide +kernel
theorem dX11_log_30 : decode cX11_log 30 = .ok (.getfield 61, 3) := by decide +kernel
theorem dX11_log_33 : decode cX11_log 33 = .ok (.aload_n 0, 1) := by decide +kernel
theorem dX11_log_34 : decode cX11_log 34 = .ok (.getfield 51, 3) := by decide +kernel
theorem dX11_log_37 : decode cX11_log 37 = .ok (.invokevirtual 239, 3) := by decide +kernel
theorem dX11_log_40 : decode cX11_log 40 = .ok (.iconst 1, 1) := by decide +kernel
theorem dX11_log_41 : decode cX11_log 41 = .ok (.isub, 1) := by decide +kernel
theorem dX11_log_42 : decode cX11_log 42 = .ok (.iload_n 1, 1) := by decide +kernel
theorem dX11_log_43 : decode cX11_log 43 = .ok (.isub, 1) := by decide +kernel
theorem dX11_log_44 : decode cX11_log 44 = .ok (.iload_n 2, 1) := by decide +kernel
theorem dX11_log_45 : decode cX11_log 45 = .ok (.invokevirtual 258, 3) := by decide +kernel
theorem dX11_log_48 : decode cX11_log 48 = .ok (.ireturn, 1) := by decide +kernel
set_option maxRecDepth 20000 in
theorem ggX11_rises_X5_unlike : GoodIn wsX11_rises wsX5_unlike := goodIn_r _ [8, 9, 10, 11, 12, 7, 13, 14, 104, 105, 106, 107, 108, 109, 110, 111, 112, 113] rfl rfl
set_option maxRecDepth 20000 in
theorem gX11_rises_X5_unlike : GoodIn wsX11_rises (wsV RX11 196 RX5 yX5_unlike wsX5_unlike) := goodIn_app (goodIn_r _ [4, 5, 6, 7] rfl rfl) ggX11_rises_X5_unlike
set_option maxRecDepth 20000 in
theorem ggX11_rises_X9_riseOf : GoodIn wsX11_rises wsX9_riseOf := goodIn_r _ [19, 20, 21, 22, 18, 23, 24, 25, 26, 27, 28, 29, 30, 31, 32, 33, 34, 35, 36, 37, 38, 39, 40, 41, 42, 43, 44, 45, 46, 47, 48, 7, 49, 50, 51, 52, 53, 54, 55, 56, 57, 58, 59, 60, 61, 62, 63, 64, 65, 66, 67, 68, 69, 70, 71, 72, 73, 74, 75, 76, 77, 78, 79, 80, 81, 82, 83, 84, 85, 114, 115, 116, 104, 105, 106, 107, 108, 109, 110, 111, 112, 113, 117, 118, 119, 120, 121, 122] rfl rfl
set_option maxRecDepth 20000 in
theorem gX11_rises_X9_riseOf : GoodIn wsX11_rises (wsV RX11 261 RX9 yX9_riseOf wsX9_riseOf) := goodIn_app (goodIn_r _ [15, 16, 17, 18] rfl rfl) ggX11_rises_X9_riseOf
theorem dX11_rises_0 : decode cX11_rises 0 = .ok (.aload_n 0, 1) := by decide +kernel
theorem dX11_rises_1 : decode cX11_rises 1 = .ok (.getfield 35, 3) := by decide +kernel
theorem dX11_rises_4 : decode cX11_rises 4 = .ok (.iload_n 1, 1) := by decide +kernel
theorem dX11_rises_5 : decode cX11_rises 5 = .ok (.iload_n 2, 1) := by decide +kernel
theorem dX11_rises_6 : decode cX11_rises 6 = .ok (.invokevirtual 196, 3) := by decide +kernel
theorem dX11_rises_9 : decode cX11_rises 9 = .ok (.ifCond .eq 15, 3) := by decide +kernel
theorem dX11_rises_12 : decode cX11_rises 12 = .ok (.aload_n 0, 1) := by decide +kernel
theorem dX11_rises_13 : decode cX11_rises 13 = .ok (.getfield 51, 3) := by decide +kernel
theorem dX11_rises_16 : decode cX11_rises 16 = .ok (.iload_n 1, 1) := by decide +kernel
theorem dX11_rises_17 : decode cX11_rises 17 = .ok (.iload_n 2, 1) := by decide +kernel
theorem dX11_rises_18 : decode cX11_rises 18 = .ok (.invokevirtual 261, 3) := by decide +kernel
theorem dX11_rises_21 : decode cX11_rises 21 = .ok (.goto 6, 3) := by decide +kernel
theorem dX11_rises_24 : decode cX11_rises 24 = .ok (.ldc_w 264, 3) := by decide +kernel
theorem dX11_rises_27 : decode cX11_rises 27 = .ok (.ireturn, 1) := by decide +kernel
set_option maxRecDepth 20000 in
theorem ggX11_later_X5_unlike : GoodIn wsX11_later wsX5_unlike := goodIn_r _ [7, 8, 9, 10, 11, 6, 12, 13, 105, 106, 107, 108, 109, 110, 111, 112, 113, 114] rfl rfl
set_option maxRecDepth 20000 in
theorem gX11_later_X5_unlike : GoodIn wsX11_later (wsV RX11 196 RX5 yX5_unlike wsX5_unlike) := goodIn_app (goodIn_r _ [3, 4, 5, 6] rfl rfl) ggX11_later_X5_unlike
set_option maxRecDepth 20000 in
theorem ggX11_later_X9_warmthOf : GoodIn wsX11_later wsX9_warmthOf := goodIn_r _ [18, 19, 20, 21, 17, 22, 115, 116, 117] rfl rfl
set_option maxRecDepth 20000 in
theorem gX11_later_X9_warmthOf : GoodIn wsX11_later (wsV RX11 200 RX9 yX9_warmthOf wsX9_warmthOf) := goodIn_app (goodIn_r _ [14, 15, 16, 17] rfl rfl) ggX11_later_X9_warmthOf
set_option maxRecDepth 20000 in
theorem ggX11_later_X9_warmer : GoodIn wsX11_later wsX9_warmer := goodIn_r _ [26, 27, 28, 29, 30, 31, 32, 33, 34, 35, 36, 17, 37, 19, 38, 39, 40, 41, 42, 43, 44, 45, 46, 47, 48, 49, 50, 51, 52, 53, 54, 6, 55, 56, 57, 58, 59, 60, 61, 62, 63, 64, 65, 66, 67, 68, 69, 70, 71, 72, 73, 74, 75, 76, 77, 78, 79, 80, 81, 82, 83, 84, 85, 86, 115, 116, 117, 105, 106, 107, 108, 109, 110, 111, 112, 113, 114, 118, 119, 120, 121, 122, 123] rfl rfl
set_option maxRecDepth 20000 in
theorem gX11_later_X9_warmer : GoodIn wsX11_later (wsV RX11 265 RX9 yX9_warmer wsX9_warmer) := goodIn_app (goodIn_r _ [23, 24, 25, 17] rfl rfl) ggX11_later_X9_warmer
theorem dX11_later_0 : decode cX11_later 0 = .ok (.aload_n 0, 1) := by decide +kernel
theorem dX11_later_1 : decode cX11_later 1 = .ok (.getfield 35, 3) := by decide +kernel
theorem dX11_later_4 : decode cX11_later 4 = .ok (.iload_n 1, 1) := by decide +kernel
theorem dX11_later_5 : decode cX11_later 5 = .ok (.iload_n 2, 1) := by decide +kernel
theorem dX11_later_6 : decode cX11_later 6 = .ok (.invokevirtual 196, 3) := by decide +kernel
theorem dX11_later_9 : decode cX11_later 9 = .ok (.ifCond .eq 13, 3) := by decide +kernel
theorem dX11_later_12 : decode cX11_later 12 = .ok (.iload_n 3, 1) := by decide +kernel
theorem dX11_later_13 : decode cX11_later 13 = .ok (.ifCond .lt 9, 3) := by decide +kernel
theorem dX11_later_16 : decode cX11_later 16 = .ok (.iload_n 3, 1) := by decide +kernel
theorem dX11_later_17 : decode cX11_later 17 = .ok (.bipush 60, 2) := by decide +kernel
theorem dX11_later_19 : decode cX11_later 19 = .ok (.if_icmp .le 5, 3) := by decide +kernel
theorem dX11_later_22 : decode cX11_later 22 = .ok (.iconst (-1), 1) := by decide +kernel
theorem dX11_later_23 : decode cX11_later 23 = .ok (.ireturn, 1) := by decide +kernel
theorem dX11_later_24 : decode cX11_later 24 = .ok (.aload_n 0, 1) := by decide +kernel
theorem dX11_later_25 : decode cX11_later 25 = .ok (.getfield 51, 3) := by decide +kernel
theorem dX11_later_28 : decode cX11_later 28 = .ok (.iload_n 1, 1) := by decide +kernel
theorem dX11_later_29 : decode cX11_later 29 = .ok (.iload_n 2, 1) := by decide +kernel
theorem dX11_later_30 : decode cX11_later 30 = .ok (.invokevirtual 200, 3) := by decide +kernel
theorem dX11_later_33 : decode cX11_later 33 = .ok (.istore 4, 2) := by decide +kernel
theorem dX11_later_35 : decode cX11_later 35 = .ok (.iconst 0, 1) := by decide +kernel
theorem dX11_later_36 : decode cX11_later 36 = .ok (.istore 5, 2) := by decide +kernel
theorem dX11_later_38 : decode cX11_later 38 = .ok (.iload 5, 2) := by decide +kernel
theorem dX11_later_40 : decode cX11_later 40 = .ok (.iload_n 3, 1) := by decide +kernel
theorem dX11_later_41 : decode cX11_later 41 = .ok (.if_icmp .ge 24, 3) := by decide +kernel
theorem dX11_later_44 : decode cX11_later 44 = .ok (.aload_n 0, 1) := by decide +kernel
theorem dX11_later_45 : decode cX11_later 45 = .ok (.getfield 51, 3) := by decide +kernel
theorem dX11_later_48 : decode cX11_later 48 = .ok (.iload_n 1, 1) := by decide +kernel
theorem dX11_later_49 : decode cX11_later 49 = .ok (.iload_n 2, 1) := by decide +kernel
theorem dX11_later_50 : decode cX11_later 50 = .ok (.iload 4, 2) := by decide +kernel
theorem dX11_later_52 : decode cX11_later 52 = .ok (.iload 5, 2) := by decide +kernel
theorem dX11_later_54 : decode cX11_later 54 = .ok (.invokevirtual 265, 3) := by decide +kernel
theorem dX11_later_57 : decode cX11_later 57 = .ok (.istore 4, 2) := by decide +kernel
theorem dX11_later_59 : decode cX11_later 59 = .ok (.iinc 5 1, 3) := by decide +kernel
theorem dX11_later_62 : decode cX11_later 62 = .ok (.goto (-24), 3) := by decide +kernel
theorem dX11_later_65 : decode cX11_later 65 = .ok (.iload 4, 2) := by decide +kernel
theorem dX11_later_67 : decode cX11_later 67 = .ok (.ireturn, 1) := by decide +kernel
set_option maxRecDepth 20000 in
theorem ggX11_soonest_X5_hasMatter : GoodIn wsX11_soonest wsX5_hasMatter := goodIn_r _ [8, 9, 117, 118, 119, 120, 121, 122, 123, 124, 125, 126] rfl rfl
set_option maxRecDepth 20000 in
theorem gX11_soonest_X5_hasMatter : GoodIn wsX11_soonest (wsV RX11 184 RX5 yX5_hasMatter wsX5_hasMatter) := goodIn_app (goodIn_r _ [4, 5, 6, 7] rfl rfl) ggX11_soonest_X5_hasMatter
set_option maxRecDepth 20000 in
theorem ggX11_soonest_X5_unlike : GoodIn wsX11_soonest wsX5_unlike := goodIn_r _ [13, 14, 15, 16, 17, 7, 18, 19, 117, 118, 119, 120, 121, 122, 123, 124, 125, 126] rfl rfl
set_option maxRecDepth 20000 in
theorem gX11_soonest_X5_unlike : GoodIn wsX11_soonest (wsV RX11 196 RX5 yX5_unlike wsX5_unlike) := goodIn_app (goodIn_r _ [10, 11, 12, 7] rfl rfl) ggX11_soonest_X5_unlike
set_option maxRecDepth 20000 in
theorem ggX11_soonest_X11_daysUntil : GoodIn wsX11_soonest wsX11_daysUntil := goodIn_r _ [24, 25, 26, 27, 28, 29, 30, 31, 32, 33, 34, 35, 36, 37, 38, 39, 40, 41, 42, 43, 44, 45, 46, 47, 48, 49, 50, 51, 52, 53, 54, 55, 56, 57, 58, 59, 60, 61, 62, 63, 64, 65, 66, 7, 67, 68, 69, 70, 71, 72, 73, 74, 75, 76, 77, 78, 79, 80, 81, 82, 83, 84, 85, 86, 87, 88, 89, 90, 91, 92, 93, 94, 95, 96, 97, 98, 99, 100, 101, 102, 103, 104, 105, 106, 107, 108, 109, 110, 111, 112, 113, 114, 115, 116, 127, 128, 129, 117, 118, 119, 120, 121, 122, 123, 124, 125, 126, 130, 131, 132, 133, 134, 135] rfl rfl
set_option maxRecDepth 20000 in
theorem gX11_soonest_X11_daysUntil : GoodIn wsX11_soonest (wsV RX11 272 RX11 yX11_daysUntil wsX11_daysUntil) := goodIn_app (goodIn_r _ [20, 21, 22, 23] rfl rfl) ggX11_soonest_X11_daysUntil
theorem dX11_soonest_0 : decode cX11_soonest 0 = .ok (.aload_n 0, 1) := by decide +kernel
theorem dX11_soonest_1 : decode cX11_soonest 1 = .ok (.getfield 35, 3) := by decide +kernel
theorem dX11_soonest_4 : decode cX11_soonest 4 = .ok (.iload_n 1, 1) := by decide +kernel
theorem dX11_soonest_5 : decode cX11_soonest 5 = .ok (.invokevirtual 184, 3) := by decide +kernel
theorem dX11_soonest_8 : decode cX11_soonest 8 = .ok (.ifCond .eq 12, 3) := by decide +kernel
theorem dX11_soonest_11 : decode cX11_soonest 11 = .ok (.iload_n 2, 1) := by decide +kernel
theorem dX11_soonest_12 : decode cX11_soonest 12 = .ok (.ifCond .lt 8, 3) := by decide +kernel
theorem dX11_soonest_15 : decode cX11_soonest 15 = .ok (.iload_n 2, 1) := by decide +kernel
theorem dX11_soonest_16 : decode cX11_soonest 16 = .ok (.iconst 1, 1) := by decide +kernel
theorem dX11_soonest_17 : decode cX11_soonest 17 = .ok (.if_icmp .le 5, 3) := by decide +kernel
theorem dX11_soonest_20 : decode cX11_soonest 20 = .ok (.iconst (-1), 1) := by decide +kernel
theorem dX11_soonest_21 : decode cX11_soonest 21 = .ok (.ireturn, 1) := by decide +kernel
theorem dX11_soonest_22 : decode cX11_soonest 22 = .ok (.iconst (-1), 1) := by decide +kernel
theorem dX11_soonest_23 : decode cX11_soonest 23 = .ok (.istore_n 3, 1) := by decide +kernel
theorem dX11_soonest_24 : decode cX11_soonest 24 = .ok (.bipush 61, 2) := by decide +kernel
theorem dX11_soonest_26 : decode cX11_soonest 26 = .ok (.istore 4, 2) := by decide +kernel
theorem dX11_soonest_28 : decode cX11_soonest 28 = .ok (.iconst 0, 1) := by decide +kernel
theorem dX11_soonest_29 : decode cX11_soonest 29 = .ok (.istore 5, 2) := by decide +kernel
theorem dX11_soonest_31 : decode cX11_soonest 31 = .ok (.iload 5, 2) := by decide +kernel
theorem dX11_soonest_33 : decode cX11_soonest 33 = .ok (.aload_n 0, 1) := by decide +kernel
theorem dX11_soonest_34 : decode cX11_soonest 34 = .ok (.getfield 35, 3) := by decide +kernel
theorem dX11_soonest_37 : decode cX11_soonest 37 = .ok (.getfield 269, 3) := by decide +kernel
theorem dX11_soonest_40 : decode cX11_soonest 40 = .ok (.if_icmp .ge 91, 3) := by decide +kernel
theorem dX11_soonest_43 : decode cX11_soonest 43 = .ok (.iload 5, 2) := by decide +kernel
theorem dX11_soonest_45 : decode cX11_soonest 45 = .ok (.iconst 1, 1) := by decide +kernel
theorem dX11_soonest_46 : decode cX11_soonest 46 = .ok (.iadd, 1) := by decide +kernel
theorem dX11_soonest_47 : decode cX11_soonest 47 = .ok (.istore 6, 2) := by decide +kernel
theorem dX11_soonest_49 : decode cX11_soonest 49 = .ok (.iload 6, 2) := by decide +kernel
theorem dX11_soonest_51 : decode cX11_soonest 51 = .ok (.aload_n 0, 1) := by decide +kernel
theorem dX11_soonest_52 : decode cX11_soonest 52 = .ok (.getfield 35, 3) := by decide +kernel
theorem dX11_soonest_55 : decode cX11_soonest 55 = .ok (.getfield 269, 3) := by decide +kernel
theorem dX11_soonest_58 : decode cX11_soonest 58 = .ok (.if_icmp .ge 67, 3) := by decide +kernel
theorem dX11_soonest_61 : decode cX11_soonest 61 = .ok (.aload_n 0, 1) := by decide +kernel
theorem dX11_soonest_62 : decode cX11_soonest 62 = .ok (.getfield 35, 3) := by decide +kernel
theorem dX11_soonest_65 : decode cX11_soonest 65 = .ok (.iload 5, 2) := by decide +kernel
theorem dX11_soonest_67 : decode cX11_soonest 67 = .ok (.iload 6, 2) := by decide +kernel
theorem dX11_soonest_69 : decode cX11_soonest 69 = .ok (.invokevirtual 196, 3) := by decide +kernel
theorem dX11_soonest_72 : decode cX11_soonest 72 = .ok (.ifCond .eq 23, 3) := by decide +kernel
theorem dX11_soonest_75 : decode cX11_soonest 75 = .ok (.aload_n 0, 1) := by decide +kernel
theorem dX11_soonest_76 : decode cX11_soonest 76 = .ok (.iload 5, 2) := by decide +kernel
theorem dX11_soonest_78 : decode cX11_soonest 78 = .ok (.iload 6, 2) := by decide +kernel
theorem dX11_soonest_80 : decode cX11_soonest 80 = .ok (.aload_n 0, 1) := by decide +kernel
theorem dX11_soonest_81 : decode cX11_soonest 81 = .ok (.getfield 35, 3) := by decide +kernel
theorem dX11_soonest_84 : decode cX11_soonest 84 = .ok (.getfield 193, 3) := by decide +kernel
theorem dX11_soonest_87 : decode cX11_soonest 87 = .ok (.iload_n 1, 1) := by decide +kernel
theorem dX11_soonest_88 : decode cX11_soonest 88 = .ok (.iaload, 1) := by decide +kernel
theorem dX11_soonest_89 : decode cX11_soonest 89 = .ok (.invokevirtual 272, 3) := by decide +kernel
theorem dX11_soonest_92 : decode cX11_soonest 92 = .ok (.goto 5, 3) := by decide +kernel
theorem dX11_soonest_95 : decode cX11_soonest 95 = .ok (.iload 4, 2) := by decide +kernel
theorem dX11_soonest_97 : decode cX11_soonest 97 = .ok (.istore 7, 2) := by decide +kernel
theorem dX11_soonest_99 : decode cX11_soonest 99 = .ok (.iload 7, 2) := by decide +kernel
theorem dX11_soonest_101 : decode cX11_soonest 101 = .ok (.iload 4, 2) := by decide +kernel
theorem dX11_soonest_103 : decode cX11_soonest 103 = .ok (.if_icmp .ge 16, 3) := by decide +kernel
theorem dX11_soonest_106 : decode cX11_soonest 106 = .ok (.iload 7, 2) := by decide +kernel
theorem dX11_soonest_108 : decode cX11_soonest 108 = .ok (.istore 4, 2) := by decide +kernel
theorem dX11_soonest_110 : decode cX11_soonest 110 = .ok (.bipush 10, 2) := by decide +kernel
theorem dX11_soonest_112 : decode cX11_soonest 112 = .ok (.iload 5, 2) := by decide +kernel
theorem dX11_soonest_114 : decode cX11_soonest 114 = .ok (.imul, 1) := by decide +kernel
theorem dX11_soonest_115 : decode cX11_soonest 115 = .ok (.iload 6, 2) := by decide +kernel
theorem dX11_soonest_117 : decode cX11_soonest 117 = .ok (.iadd, 1) := by decide +kernel
theorem dX11_soonest_118 : decode cX11_soonest 118 = .ok (.istore_n 3, 1) := by decide +kernel
theorem dX11_soonest_119 : decode cX11_soonest 119 = .ok (.iinc 6 1, 3) := by decide +kernel
theorem dX11_soonest_122 : decode cX11_soonest 122 = .ok (.goto (-73), 3) := by decide +kernel
theorem dX11_soonest_125 : decode cX11_soonest 125 = .ok (.iinc 5 1, 3) := by decide +kernel
theorem dX11_soonest_128 : decode cX11_soonest 128 = .ok (.goto (-97), 3) := by decide +kernel
theorem dX11_soonest_131 : decode cX11_soonest 131 = .ok (.iload_n 2, 1) := by decide +kernel
theorem dX11_soonest_132 : decode cX11_soonest 132 = .ok (.ifCond .eq 8, 3) := by decide +kernel
theorem dX11_soonest_135 : decode cX11_soonest 135 = .ok (.iload_n 3, 1) := by decide +kernel
theorem dX11_soonest_136 : decode cX11_soonest 136 = .ok (.iconst (-1), 1) := by decide +kernel
theorem dX11_soonest_137 : decode cX11_soonest 137 = .ok (.if_icmp .ne 7, 3) := by decide +kernel
theorem dX11_soonest_140 : decode cX11_soonest 140 = .ok (.iload_n 3, 1) := by decide +kernel
theorem dX11_soonest_141 : decode cX11_soonest 141 = .ok (.goto 5, 3) := by decide +kernel
theorem dX11_soonest_144 : decode cX11_soonest 144 = .ok (.iload 4, 2) := by decide +kernel
theorem dX11_soonest_146 : decode cX11_soonest 146 = .ok (.ireturn, 1) := by decide +kernel
set_option maxRecDepth 20000 in
theorem ggX11_pairs_X11_noPeace : GoodIn wsX11_pairs wsX11_noPeace := goodIn_r _ [11, 12, 13, 124, 125, 126, 127, 128, 129, 130, 131, 132, 133, 134, 135, 136, 137, 138, 139, 140, 141, 149, 150, 151, 152, 153, 154, 155, 156, 157, 158] rfl rfl
set_option maxRecDepth 20000 in
theorem gX11_pairs_X11_noPeace : GoodIn wsX11_pairs (wsV RX11 146 RX11 yX11_noPeace wsX11_noPeace) := goodIn_app (goodIn_r _ [7, 8, 9, 10] rfl rfl) ggX11_pairs_X11_noPeace
set_option maxRecDepth 20000 in
theorem ggX11_pairs_X4_solve : GoodIn wsX11_pairs wsX4_solve := goodIn_r _ [18, 19, 20, 21, 22, 23, 24, 25, 26, 27, 28, 29, 30, 31, 32, 33, 34, 35, 36, 37, 38, 39, 40, 41, 42, 43, 44, 45, 46, 47, 48, 49, 50, 51, 52, 53, 54, 55, 56, 57, 58, 59, 60, 61, 62, 63, 64, 65, 66, 67, 68, 69, 70, 71, 72, 73, 74, 75, 76, 77, 78, 79, 80, 81, 82, 83, 84, 85, 86, 87, 88, 89, 90, 91, 92, 93, 94, 95, 96, 97, 98, 99, 100, 101, 102, 103, 104, 105, 106, 107, 108, 109, 110, 111, 112, 113, 114, 115, 116, 117, 118, 119, 120, 17, 121, 122, 123, 142, 143, 144, 145, 146, 147, 148, 149, 150, 151, 152, 153, 154, 155, 156, 157, 158, 159, 160, 161, 162, 163, 164, 165, 166, 167] rfl rfl
set_option maxRecDepth 20000 in
theorem gX11_pairs_X4_solve : GoodIn wsX11_pairs (wsV RX11 276 RX4 yX4_solve wsX4_solve) := goodIn_app (goodIn_r _ [14, 15, 16, 17] rfl rfl) ggX11_pairs_X4_solve
theorem dX11_pairs_0 : decode cX11_pairs 0 = .ok (.aload_n 0, 1) := by decide +kernel
theorem dX11_pairs_1 : decode cX11_pairs 1 = .ok (.invokevirtual 146, 3) := by decide +kernel
theorem dX11_pairs_4 : decode cX11_pairs 4 = .ok (.ifCond .ne 12, 3) := by decide +kernel
theorem dX11_pairs_7 : decode cX11_pairs 7 = .ok (.iload_n 1, 1) := by decide +kernel
theorem dX11_pairs_8 : decode cX11_pairs 8 = .ok (.ifCond .lt 8, 3) := by decide +kernel
theorem dX11_pairs_11 : decode cX11_pairs 11 = .ok (.iload_n 1, 1) := by decide +kernel
theorem dX11_pairs_12 : decode cX11_pairs 12 = .ok (.iconst 1, 1) := by decide +kernel
theorem dX11_pairs_13 : decode cX11_pairs 13 = .ok (.if_icmp .le 7, 3) := by decide +kernel
theorem dX11_pairs_16 : decode cX11_pairs 16 = .ok (.ldc_w 264, 3) := by decide +kernel
theorem dX11_pairs_19 : decode cX11_pairs 19 = .ok (.ireturn, 1) := by decide +kernel
theorem dX11_pairs_20 : decode cX11_pairs 20 = .ok (.aload_n 0, 1) := by decide +kernel
theorem dX11_pairs_21 : decode cX11_pairs 21 = .ok (.getfield 90, 3) := by decide +kernel
theorem dX11_pairs_24 : decode cX11_pairs 24 = .ok (.aload_n 0, 1) := by decide +kernel
theorem dX11_pairs_25 : decode cX11_pairs 25 = .ok (.getfield 51, 3) := by decide +kernel
theorem dX11_pairs_28 : decode cX11_pairs 28 = .ok (.invokevirtual 276, 3) := by decide +kernel
theorem dX11_pairs_31 : decode cX11_pairs 31 = .ok (.iload_n 1, 1) := by decide +kernel
theorem dX11_pairs_32 : decode cX11_pairs 32 = .ok (.iconst 1, 1) := by decide +kernel
theorem dX11_pairs_33 : decode cX11_pairs 33 = .ok (.if_icmp .ne 11, 3) := by decide +kernel
theorem dX11_pairs_36 : decode cX11_pairs 36 = .ok (.aload_n 0, 1) := by decide +kernel
theorem dX11_pairs_37 : decode cX11_pairs 37 = .ok (.getfield 90, 3) := by decide +kernel
theorem dX11_pairs_40 : decode cX11_pairs 40 = .ok (.getfield 279, 3) := by decide +kernel
theorem dX11_pairs_43 : decode cX11_pairs 43 = .ok (.ireturn, 1) := by decide +kernel
theorem dX11_pairs_44 : decode cX11_pairs 44 = .ok (.aload_n 0, 1) := by decide +kernel
theorem dX11_pairs_45 : decode cX11_pairs 45 = .ok (.getfield 90, 3) := by decide +kernel
theorem dX11_pairs_48 : decode cX11_pairs 48 = .ok (.getfield 282, 3) := by decide +kernel
theorem dX11_pairs_51 : decode cX11_pairs 51 = .ok (.ifCond .ne 7, 3) := by decide +kernel
theorem dX11_pairs_54 : decode cX11_pairs 54 = .ok (.iconst (-1), 1) := by decide +kernel
theorem dX11_pairs_55 : decode cX11_pairs 55 = .ok (.goto 10, 3) := by decide +kernel
theorem dX11_pairs_58 : decode cX11_pairs 58 = .ok (.aload_n 0, 1) := by decide +kernel
theorem dX11_pairs_59 : decode cX11_pairs 59 = .ok (.getfield 90, 3) := by decide +kernel
theorem dX11_pairs_62 : decode cX11_pairs 62 = .ok (.getfield 283, 3) := by decide +kernel
theorem dX11_pairs_65 : decode cX11_pairs 65 = .ok (.ireturn, 1) := by decide +kernel
set_option maxRecDepth 20000 in
theorem ggX11_allKnow_X11_noPeace : GoodIn wsX11_allKnow wsX11_noPeace := goodIn_r _ [8, 9, 10, 170, 171, 172, 173, 174, 175, 176, 177, 178, 179, 180, 181, 182, 183, 184, 185, 186, 187, 188, 189, 190, 191, 192, 193, 194, 195, 196, 197] rfl rfl
set_option maxRecDepth 20000 in
theorem gX11_allKnow_X11_noPeace : GoodIn wsX11_allKnow (wsV RX11 146 RX11 yX11_noPeace wsX11_noPeace) := goodIn_app (goodIn_r _ [4, 5, 6, 7] rfl rfl) ggX11_allKnow_X11_noPeace
set_option maxRecDepth 20000 in
theorem ggX11_allKnow_X9_copyFrom : GoodIn wsX11_allKnow wsX9_copyFrom := goodIn_r _ [15, 16, 17, 18, 19, 20, 198, 199, 200] rfl rfl
set_option maxRecDepth 20000 in
theorem gX11_allKnow_X9_copyFrom : GoodIn wsX11_allKnow (wsV RX11 286 RX9 yX9_copyFrom wsX9_copyFrom) := goodIn_app (goodIn_r _ [11, 12, 13, 14] rfl rfl) ggX11_allKnow_X9_copyFrom
set_option maxRecDepth 20000 in
theorem ggX11_allKnow_X9_allKnown : GoodIn wsX11_allKnow wsX9_allKnown := goodIn_r _ [24, 25, 26, 27, 28, 29, 14, 30, 16, 198, 199, 200, 188, 189, 190, 191, 192, 193, 194, 195, 196, 197] rfl rfl
set_option maxRecDepth 20000 in
theorem gX11_allKnow_X9_allKnown : GoodIn wsX11_allKnow (wsV RX11 289 RX9 yX9_allKnown wsX9_allKnown) := goodIn_app (goodIn_r _ [21, 22, 23, 14] rfl rfl) ggX11_allKnow_X9_allKnown
set_option maxRecDepth 20000 in
theorem ggX11_allKnow_X4_solve : GoodIn wsX11_allKnow wsX4_solve := goodIn_r _ [35, 36, 37, 38, 39, 40, 41, 42, 43, 44, 45, 14, 46, 16, 47, 48, 49, 50, 51, 52, 53, 54, 55, 56, 57, 58, 59, 60, 61, 62, 63, 64, 65, 66, 67, 68, 69, 70, 71, 72, 73, 74, 75, 76, 77, 25, 78, 79, 80, 81, 82, 83, 84, 85, 86, 87, 88, 89, 90, 91, 92, 93, 94, 95, 96, 97, 98, 99, 100, 101, 102, 103, 104, 105, 106, 107, 108, 109, 110, 111, 112, 113, 114, 115, 116, 117, 118, 119, 120, 121, 122, 123, 124, 125, 126, 127, 128, 129, 26, 130, 131, 132, 133, 34, 134, 135, 136, 201, 202, 203, 204, 205, 206, 207, 188, 189, 190, 191, 192, 193, 194, 195, 196, 197, 198, 199, 200, 208, 209, 210, 211, 212, 213] rfl rfl
set_option maxRecDepth 20000 in
theorem gX11_allKnow_X4_solve : GoodIn wsX11_allKnow (wsV RX11 276 RX4 yX4_solve wsX4_solve) := goodIn_app (goodIn_r _ [31, 32, 33, 34] rfl rfl) ggX11_allKnow_X4_solve
set_option maxRecDepth 20000 in
theorem ggX11_allKnow_X4_perform : GoodIn wsX11_allKnow wsX4_perform := goodIn_r _ [140, 136, 36, 37, 40, 47, 48, 49, 50, 51, 52, 53, 54, 55, 56, 57, 141, 142, 143, 14, 144, 16, 66, 67, 68, 62, 63, 64, 65, 145, 146, 147, 148, 149, 105, 106, 107, 150, 109, 110, 69, 70, 71, 72, 73, 74, 75, 76, 77, 25, 78, 79, 80, 81, 82, 83, 84, 85, 86, 87, 88, 89, 90, 91, 92, 93, 94, 95, 96, 97, 98, 99, 100, 101, 102, 103, 104, 108, 111, 112, 113, 114, 115, 116, 117, 118, 119, 120, 121, 122, 123, 124, 125, 27, 28, 29, 30, 151, 152, 153, 154, 155, 156, 157, 158, 159, 160, 201, 202, 203, 204, 205, 206, 207, 188, 189, 190, 191, 192, 193, 194, 195, 196, 197, 198, 199, 200, 208, 209, 210, 211, 212, 213] rfl rfl
set_option maxRecDepth 20000 in
theorem gX11_allKnow_X4_perform : GoodIn wsX11_allKnow (wsV RX11 292 RX4 yX4_perform wsX4_perform) := goodIn_app (goodIn_r _ [137, 138, 139, 34] rfl rfl) ggX11_allKnow_X4_perform
set_option maxRecDepth 20000 in
theorem ggX11_allKnow_X9_day : GoodIn wsX11_allKnow wsX9_day := goodIn_r _ [72, 16, 198, 199, 200] rfl rfl
set_option maxRecDepth 20000 in
theorem gX11_allKnow_X9_day : GoodIn wsX11_allKnow (wsV RX11 239 RX9 yX9_day wsX9_day) := goodIn_app (goodIn_r _ [161, 70, 71, 14] rfl rfl) ggX11_allKnow_X9_day
set_option maxRecDepth 20000 in
theorem ggX11_allKnow_X9_cool : GoodIn wsX11_allKnow wsX9_cool := goodIn_r _ [165, 25, 26, 16, 149, 105, 106, 107, 66, 67, 14, 68, 198, 199, 200, 188, 189, 190, 191, 192, 193, 194, 195, 196, 197] rfl rfl
set_option maxRecDepth 20000 in
theorem gX11_allKnow_X9_cool : GoodIn wsX11_allKnow (wsV RX11 295 RX9 yX9_cool wsX9_cool) := goodIn_app (goodIn_r _ [162, 163, 164, 14] rfl rfl) ggX11_allKnow_X9_cool
set_option maxRecDepth 20000 in
theorem ggX11_allKnow_X9_dawn : GoodIn wsX11_allKnow wsX9_dawn := goodIn_r _ [169, 16, 198, 199, 200] rfl rfl
set_option maxRecDepth 20000 in
theorem gX11_allKnow_X9_dawn : GoodIn wsX11_allKnow (wsV RX11 298 RX9 yX9_dawn wsX9_dawn) := goodIn_app (goodIn_r _ [166, 167, 168, 14] rfl rfl) ggX11_allKnow_X9_dawn
theorem dX11_allKnow_0 : decode cX11_allKnow 0 = .ok (.aload_n 0, 1) := by decide +kernel
theorem dX11_allKnow_1 : decode cX11_allKnow 1 = .ok (.invokevirtual 146, 3) := by decide +kernel
theorem dX11_allKnow_4 : decode cX11_allKnow 4 = .ok (.ifCond .eq 5, 3) := by decide +kernel
theorem dX11_allKnow_7 : decode cX11_allKnow 7 = .ok (.iconst (-1), 1) := by decide +kernel
theorem dX11_allKnow_8 : decode cX11_allKnow 8 = .ok (.ireturn, 1) := by decide +kernel
theorem dX11_allKnow_9 : decode cX11_allKnow 9 = .ok (.aload_n 0, 1) := by decide +kernel
theorem dX11_allKnow_10 : decode cX11_allKnow 10 = .ok (.getfield 55, 3) := by decide +kernel
theorem dX11_allKnow_13 : decode cX11_allKnow 13 = .ok (.aload_n 0, 1) := by decide +kernel
theorem dX11_allKnow_14 : decode cX11_allKnow 14 = .ok (.getfield 51, 3) := by decide +kernel
theorem dX11_allKnow_17 : decode cX11_allKnow 17 = .ok (.invokevirtual 286, 3) := by decide +kernel
theorem dX11_allKnow_20 : decode cX11_allKnow 20 = .ok (.iconst 0, 1) := by decide +kernel
theorem dX11_allKnow_21 : decode cX11_allKnow 21 = .ok (.istore_n 1, 1) := by decide +kernel
theorem dX11_allKnow_22 : decode cX11_allKnow 22 = .ok (.iload_n 1, 1) := by decide +kernel
theorem dX11_allKnow_23 : decode cX11_allKnow 23 = .ok (.bipush 30, 2) := by decide +kernel
theorem dX11_allKnow_25 : decode cX11_allKnow 25 = .ok (.if_icmp .gt 70, 3) := by decide +kernel
theorem dX11_allKnow_28 : decode cX11_allKnow 28 = .ok (.aload_n 0, 1) := by decide +kernel
theorem dX11_allKnow_29 : decode cX11_allKnow 29 = .ok (.getfield 55, 3) := by decide +kernel
theorem dX11_allKnow_32 : decode cX11_allKnow 32 = .ok (.invokevirtual 289, 3) := by decide +kernel
theorem dX11_allKnow_35 : decode cX11_allKnow 35 = .ok (.ifCond .eq 5, 3) := by decide +kernel
theorem dX11_allKnow_38 : decode cX11_allKnow 38 = .ok (.iload_n 1, 1) := by decide +kernel
theorem dX11_allKnow_39 : decode cX11_allKnow 39 = .ok (.ireturn, 1) := by decide +kernel
theorem dX11_allKnow_40 : decode cX11_allKnow 40 = .ok (.aload_n 0, 1) := by decide +kernel
theorem dX11_allKnow_41 : decode cX11_allKnow 41 = .ok (.getfield 90, 3) := by decide +kernel
theorem dX11_allKnow_44 : decode cX11_allKnow 44 = .ok (.aload_n 0, 1) := by decide +kernel
theorem dX11_allKnow_45 : decode cX11_allKnow 45 = .ok (.getfield 55, 3) := by decide +kernel
theorem dX11_allKnow_48 : decode cX11_allKnow 48 = .ok (.invokevirtual 276, 3) := by decide +kernel
theorem dX11_allKnow_51 : decode cX11_allKnow 51 = .ok (.aload_n 0, 1) := by decide +kernel
theorem dX11_allKnow_52 : decode cX11_allKnow 52 = .ok (.getfield 90, 3) := by decide +kernel
theorem dX11_allKnow_55 : decode cX11_allKnow 55 = .ok (.aload_n 0, 1) := by decide +kernel
theorem dX11_allKnow_56 : decode cX11_allKnow 56 = .ok (.getfield 55, 3) := by decide +kernel
theorem dX11_allKnow_59 : decode cX11_allKnow 59 = .ok (.invokevirtual 292, 3) := by decide +kernel
theorem dX11_allKnow_62 : decode cX11_allKnow 62 = .ok (.aload_n 0, 1) := by decide +kernel
theorem dX11_allKnow_63 : decode cX11_allKnow 63 = .ok (.getfield 55, 3) := by decide +kernel
theorem dX11_allKnow_66 : decode cX11_allKnow 66 = .ok (.invokevirtual 239, 3) := by decide +kernel
theorem dX11_allKnow_69 : decode cX11_allKnow 69 = .ok (.sipush 999, 3) := by decide +kernel
theorem dX11_allKnow_72 : decode cX11_allKnow 72 = .ok (.if_icmp .ge 17, 3) := by decide +kernel
theorem dX11_allKnow_75 : decode cX11_allKnow 75 = .ok (.aload_n 0, 1) := by decide +kernel
theorem dX11_allKnow_76 : decode cX11_allKnow 76 = .ok (.getfield 55, 3) := by decide +kernel
theorem dX11_allKnow_79 : decode cX11_allKnow 79 = .ok (.invokevirtual 295, 3) := by decide +kernel
theorem dX11_allKnow_82 : decode cX11_allKnow 82 = .ok (.aload_n 0, 1) := by decide +kernel
theorem dX11_allKnow_83 : decode cX11_allKnow 83 = .ok (.getfield 55, 3) := by decide +kernel
theorem dX11_allKnow_86 : decode cX11_allKnow 86 = .ok (.invokevirtual 298, 3) := by decide +kernel
theorem dX11_allKnow_89 : decode cX11_allKnow 89 = .ok (.iinc 1 1, 3) := by decide +kernel
theorem dX11_allKnow_92 : decode cX11_allKnow 92 = .ok (.goto (-70), 3) := by decide +kernel
theorem dX11_allKnow_95 : decode cX11_allKnow 95 = .ok (.iconst (-1), 1) := by decide +kernel
theorem dX11_allKnow_96 : decode cX11_allKnow 96 = .ok (.ireturn, 1) := by decide +kernel
set_option maxRecDepth 20000 in
theorem ggX11_seen_X5_unlike : GoodIn wsX11_seen wsX5_unlike := goodIn_r _ [8, 9, 10, 11, 12, 7, 13, 14, 58, 59, 60, 61, 62, 63, 64, 65, 66, 67] rfl rfl
set_option maxRecDepth 20000 in
theorem gX11_seen_X5_unlike : GoodIn wsX11_seen (wsV RX11 196 RX5 yX5_unlike wsX5_unlike) := goodIn_app (goodIn_r _ [4, 5, 6, 7] rfl rfl) ggX11_seen_X5_unlike
set_option maxRecDepth 20000 in
theorem ggX11_seen_X11_isNoRise : GoodIn wsX11_seen wsX11_isNoRise := goodIn_r _ [18] rfl rfl
set_option maxRecDepth 20000 in
theorem gX11_seen_X11_isNoRise : GoodIn wsX11_seen (va_wsS RX11 301 yX11_isNoRise wsX11_isNoRise) := goodIn_app (goodIn_r _ [15, 16, 17] rfl rfl) ggX11_seen_X11_isNoRise
set_option maxRecDepth 20000 in
theorem ggX11_seen_X8_isFull : GoodIn wsX11_seen wsX8_isFull := goodIn_r _ [23, 24, 51, 52, 53, 54, 55, 56, 57] rfl rfl
set_option maxRecDepth 20000 in
theorem gX11_seen_X8_isFull : GoodIn wsX11_seen (wsV RX11 304 RX8 yX8_isFull wsX8_isFull) := goodIn_app (goodIn_r _ [19, 20, 21, 22] rfl rfl) ggX11_seen_X8_isFull
set_option maxRecDepth 20000 in
theorem ggX11_seen_X8_add : GoodIn wsX11_seen wsX8_add := goodIn_r _ [28, 29, 24, 30, 31, 32, 51, 52, 53, 54, 55, 56, 57] rfl rfl
set_option maxRecDepth 20000 in
theorem gX11_seen_X8_add : GoodIn wsX11_seen (wsV RX11 305 RX8 yX8_add wsX8_add) := goodIn_app (goodIn_r _ [25, 26, 27, 22] rfl rfl) ggX11_seen_X8_add
theorem dX11_seen_0 : decode cX11_seen 0 = .ok (.aload_n 0, 1) := by decide +kernel
theorem dX11_seen_1 : decode cX11_seen 1 = .ok (.getfield 35, 3) := by decide +kernel
theorem dX11_seen_4 : decode cX11_seen 4 = .ok (.iload_n 1, 1) := by decide +kernel
theorem dX11_seen_5 : decode cX11_seen 5 = .ok (.iload_n 2, 1) := by decide +kernel
theorem dX11_seen_6 : decode cX11_seen 6 = .ok (.invokevirtual 196, 3) := by decide +kernel
theorem dX11_seen_9 : decode cX11_seen 9 = .ok (.ifCond .eq 20, 3) := by decide +kernel
theorem dX11_seen_12 : decode cX11_seen 12 = .ok (.iload_n 3, 1) := by decide +kernel
theorem dX11_seen_13 : decode cX11_seen 13 = .ok (.invokestatic 301, 3) := by decide +kernel
theorem dX11_seen_16 : decode cX11_seen 16 = .ok (.ifCond .ne 13, 3) := by decide +kernel
theorem dX11_seen_19 : decode cX11_seen 19 = .ok (.aload_n 0, 1) := by decide +kernel
theorem dX11_seen_20 : decode cX11_seen 20 = .ok (.getfield 81, 3) := by decide +kernel
theorem dX11_seen_23 : decode cX11_seen 23 = .ok (.invokevirtual 304, 3) := by decide +kernel
theorem dX11_seen_26 : decode cX11_seen 26 = .ok (.ifCond .eq 5, 3) := by decide +kernel
theorem dX11_seen_29 : decode cX11_seen 29 = .ok (.iconst (-1), 1) := by decide +kernel
theorem dX11_seen_30 : decode cX11_seen 30 = .ok (.ireturn, 1) := by decide +kernel
theorem dX11_seen_31 : decode cX11_seen 31 = .ok (.aload_n 0, 1) := by decide +kernel
theorem dX11_seen_32 : decode cX11_seen 32 = .ok (.getfield 81, 3) := by decide +kernel
theorem dX11_seen_35 : decode cX11_seen 35 = .ok (.iload_n 1, 1) := by decide +kernel
theorem dX11_seen_36 : decode cX11_seen 36 = .ok (.iload_n 2, 1) := by decide +kernel
theorem dX11_seen_37 : decode cX11_seen 37 = .ok (.iload_n 3, 1) := by decide +kernel
theorem dX11_seen_38 : decode cX11_seen 38 = .ok (.iload 4, 2) := by decide +kernel
theorem dX11_seen_40 : decode cX11_seen 40 = .ok (.invokevirtual 305, 3) := by decide +kernel
theorem dX11_seen_43 : decode cX11_seen 43 = .ok (.aload_n 0, 1) := by decide +kernel
theorem dX11_seen_44 : decode cX11_seen 44 = .ok (.getfield 81, 3) := by decide +kernel
theorem dX11_seen_47 : decode cX11_seen 47 = .ok (.getfield 309, 3) := by decide +kernel
theorem dX11_seen_50 : decode cX11_seen 50 = .ok (.ireturn, 1) := by decide +kernel
set_option maxRecDepth 20000 in
theorem ggX11_fits_X5_hasGlove : GoodIn wsX11_fits wsX5_hasGlove := goodIn_r _ [7, 8, 82, 83, 84, 85, 86, 87, 88, 89, 90, 91] rfl rfl
set_option maxRecDepth 20000 in
theorem gX11_fits_X5_hasGlove : GoodIn wsX11_fits (wsV RX11 155 RX5 yX5_hasGlove wsX5_hasGlove) := goodIn_app (goodIn_r _ [3, 4, 5, 6] rfl rfl) ggX11_fits_X5_hasGlove
set_option maxRecDepth 20000 in
theorem ggX11_fits_X8_allow : GoodIn wsX11_fits wsX8_allow := goodIn_r _ [13, 14, 15, 16, 17, 18, 19, 20, 21, 12, 22, 23, 24, 25, 26, 27, 28, 29, 30, 6, 31, 32, 33, 34, 35, 36, 37, 38, 39, 40, 41, 42, 43, 44, 45, 46, 47, 48, 49, 50, 51, 52, 53, 54, 55, 56, 57, 58, 59, 60, 61, 62, 63, 92, 93, 94, 95, 96, 97, 98, 82, 83, 84, 85, 86, 87, 88, 89, 90, 91, 99, 100, 101, 102, 103, 104] rfl rfl
set_option maxRecDepth 20000 in
theorem gX11_fits_X8_allow : GoodIn wsX11_fits (wsV RX11 310 RX8 yX8_allow wsX8_allow) := goodIn_app (goodIn_r _ [9, 10, 11, 12] rfl rfl) ggX11_fits_X8_allow
theorem dX11_fits_0 : decode cX11_fits 0 = .ok (.aload_n 0, 1) := by decide +kernel
theorem dX11_fits_1 : decode cX11_fits 1 = .ok (.getfield 35, 3) := by decide +kernel
theorem dX11_fits_4 : decode cX11_fits 4 = .ok (.iload_n 1, 1) := by decide +kernel
theorem dX11_fits_5 : decode cX11_fits 5 = .ok (.invokevirtual 155, 3) := by decide +kernel
theorem dX11_fits_8 : decode cX11_fits 8 = .ok (.ifCond .eq 8, 3) := by decide +kernel
theorem dX11_fits_11 : decode cX11_fits 11 = .ok (.iload_n 2, 1) := by decide +kernel
theorem dX11_fits_12 : decode cX11_fits 12 = .ok (.iconst (-1), 1) := by decide +kernel
theorem dX11_fits_13 : decode cX11_fits 13 = .ok (.if_icmp .ge 5, 3) := by decide +kernel
theorem dX11_fits_16 : decode cX11_fits 16 = .ok (.iconst (-1), 1) := by decide +kernel
theorem dX11_fits_17 : decode cX11_fits 17 = .ok (.ireturn, 1) := by decide +kernel
theorem dX11_fits_18 : decode cX11_fits 18 = .ok (.iconst 0, 1) := by decide +kernel
theorem dX11_fits_19 : decode cX11_fits 19 = .ok (.istore_n 3, 1) := by decide +kernel
theorem dX11_fits_20 : decode cX11_fits 20 = .ok (.iconst 0, 1) := by decide +kernel
theorem dX11_fits_21 : decode cX11_fits 21 = .ok (.istore 4, 2) := by decide +kernel
theorem dX11_fits_23 : decode cX11_fits 23 = .ok (.iload 4, 2) := by decide +kernel
theorem dX11_fits_25 : decode cX11_fits 25 = .ok (.bipush 9, 2) := by decide +kernel
theorem dX11_fits_27 : decode cX11_fits 27 = .ok (.if_icmp .gt 33, 3) := by decide +kernel
theorem dX11_fits_30 : decode cX11_fits 30 = .ok (.aload_n 0, 1) := by decide +kernel
theorem dX11_fits_31 : decode cX11_fits 31 = .ok (.getfield 81, 3) := by decide +kernel
theorem dX11_fits_34 : decode cX11_fits 34 = .ok (.iload_n 1, 1) := by decide +kernel
theorem dX11_fits_35 : decode cX11_fits 35 = .ok (.iload 4, 2) := by decide +kernel
theorem dX11_fits_37 : decode cX11_fits 37 = .ok (.invokevirtual 310, 3) := by decide +kernel
theorem dX11_fits_40 : decode cX11_fits 40 = .ok (.ifCond .eq 14, 3) := by decide +kernel
theorem dX11_fits_43 : decode cX11_fits 43 = .ok (.iload_n 3, 1) := by decide +kernel
theorem dX11_fits_44 : decode cX11_fits 44 = .ok (.iload_n 2, 1) := by decide +kernel
theorem dX11_fits_45 : decode cX11_fits 45 = .ok (.if_icmp .ne 6, 3) := by decide +kernel
theorem dX11_fits_48 : decode cX11_fits 48 = .ok (.iload 4, 2) := by decide +kernel
theorem dX11_fits_50 : decode cX11_fits 50 = .ok (.ireturn, 1) := by decide +kernel
theorem dX11_fits_51 : decode cX11_fits 51 = .ok (.iinc 3 1, 3) := by decide +kernel
theorem dX11_fits_54 : decode cX11_fits 54 = .ok (.iinc 4 1, 3) := by decide +kernel
theorem dX11_fits_57 : decode cX11_fits 57 = .ok (.goto (-34), 3) := by decide +kernel
theorem dX11_fits_60 : decode cX11_fits 60 = .ok (.iload_n 2, 1) := by decide +kernel
theorem dX11_fits_61 : decode cX11_fits 61 = .ok (.iconst (-1), 1) := by decide +kernel
theorem dX11_fits_62 : decode cX11_fits 62 = .ok (.if_icmp .ne 7, 3) := by decide +kernel
theorem dX11_fits_65 : decode cX11_fits 65 = .ok (.iload_n 3, 1) := by decide +kernel
theorem dX11_fits_66 : decode cX11_fits 66 = .ok (.goto 4, 3) := by decide +kernel
theorem dX11_fits_69 : decode cX11_fits 69 = .ok (.iconst (-1), 1) := by decide +kernel
theorem dX11_fits_70 : decode cX11_fits 70 = .ok (.ireturn, 1) := by decide +kernel
set_option maxRecDepth 20000 in
theorem ggX11_ask_X5_hasGlove : GoodIn wsX11_ask wsX5_hasGlove := goodIn_r _ [8, 9, 104, 105, 106, 107, 108, 109, 110, 111, 112, 113] rfl rfl
set_option maxRecDepth 20000 in
theorem gX11_ask_X5_hasGlove : GoodIn wsX11_ask (wsV RX11 155 RX5 yX5_hasGlove wsX5_hasGlove) := goodIn_app (goodIn_r _ [4, 5, 6, 7] rfl rfl) ggX11_ask_X5_hasGlove
set_option maxRecDepth 20000 in
theorem ggX11_ask_X11_isNoRise : GoodIn wsX11_ask wsX11_isNoRise := goodIn_r _ [13] rfl rfl
set_option maxRecDepth 20000 in
theorem gX11_ask_X11_isNoRise : GoodIn wsX11_ask (va_wsS RX11 301 yX11_isNoRise wsX11_isNoRise) := goodIn_app (goodIn_r _ [10, 11, 12] rfl rfl) ggX11_ask_X11_isNoRise
set_option maxRecDepth 20000 in
theorem ggX11_ask_X8_fitting : GoodIn wsX11_ask wsX8_fitting := goodIn_r _ [18, 19, 20, 21, 17, 22, 23, 24, 25, 26, 27, 28, 29, 30, 31, 32, 33, 34, 35, 36, 37, 38, 39, 7, 40, 41, 42, 43, 44, 45, 46, 47, 48, 49, 50, 51, 52, 53, 54, 55, 56, 57, 58, 59, 60, 61, 62, 63, 64, 65, 66, 67, 68, 69, 70, 71, 72, 114, 115, 116, 117, 118, 119, 120, 104, 105, 106, 107, 108, 109, 110, 111, 112, 113, 121, 122, 123, 124, 125, 126] rfl rfl
set_option maxRecDepth 20000 in
theorem gX11_ask_X8_fitting : GoodIn wsX11_ask (wsV RX11 313 RX8 yX8_fitting wsX8_fitting) := goodIn_app (goodIn_r _ [14, 15, 16, 17] rfl rfl) ggX11_ask_X8_fitting
set_option maxRecDepth 20000 in
theorem ggX11_ask_X5_unlike : GoodIn wsX11_ask wsX5_unlike := goodIn_r _ [76, 77, 78, 5, 6, 7, 8, 9, 104, 105, 106, 107, 108, 109, 110, 111, 112, 113] rfl rfl
set_option maxRecDepth 20000 in
theorem gX11_ask_X5_unlike : GoodIn wsX11_ask (wsV RX11 196 RX5 yX5_unlike wsX5_unlike) := goodIn_app (goodIn_r _ [73, 74, 75, 7] rfl rfl) ggX11_ask_X5_unlike
set_option maxRecDepth 20000 in
theorem ggX11_ask_X8_gap : GoodIn wsX11_ask wsX8_gap := goodIn_r _ [82, 83, 84, 53, 85, 28, 29, 30, 17, 31, 32, 33, 34, 35, 36, 37, 38, 39, 7, 40, 41, 42, 43, 44, 45, 46, 47, 48, 49, 50, 51, 52, 54, 55, 56, 57, 58, 59, 60, 61, 62, 63, 64, 65, 66, 67, 68, 69, 70, 71, 72, 114, 115, 116, 117, 118, 119, 120, 104, 105, 106, 107, 108, 109, 110, 111, 112, 113, 121, 122, 123, 124, 125, 126] rfl rfl
set_option maxRecDepth 20000 in
theorem gX11_ask_X8_gap : GoodIn wsX11_ask (wsV RX11 316 RX8 yX8_gap wsX8_gap) := goodIn_app (goodIn_r _ [79, 80, 81, 17] rfl rfl) ggX11_ask_X8_gap
theorem dX11_ask_0 : decode cX11_ask 0 = .ok (.aload_n 0, 1) := by decide +kernel
theorem dX11_ask_1 : decode cX11_ask 1 = .ok (.getfield 35, 3) := by decide +kernel
theorem dX11_ask_4 : decode cX11_ask 4 = .ok (.iload_n 1, 1) := by decide +kernel
theorem dX11_ask_5 : decode cX11_ask 5 = .ok (.invokevirtual 155, 3) := by decide +kernel
theorem dX11_ask_8 : decode cX11_ask 8 = .ok (.ifCond .eq 10, 3) := by decide +kernel
theorem dX11_ask_11 : decode cX11_ask 11 = .ok (.iload_n 2, 1) := by decide +kernel
theorem dX11_ask_12 : decode cX11_ask 12 = .ok (.invokestatic 301, 3) := by decide +kernel
theorem dX11_ask_15 : decode cX11_ask 15 = .ok (.ifCond .eq 5, 3) := by decide +kernel
theorem dX11_ask_18 : decode cX11_ask 18 = .ok (.iconst (-1), 1) := by decide +kernel
theorem dX11_ask_19 : decode cX11_ask 19 = .ok (.ireturn, 1) := by decide +kernel
theorem dX11_ask_20 : decode cX11_ask 20 = .ok (.aload_n 0, 1) := by decide +kernel
theorem dX11_ask_21 : decode cX11_ask 21 = .ok (.getfield 81, 3) := by decide +kernel
theorem dX11_ask_24 : decode cX11_ask 24 = .ok (.iload_n 1, 1) := by decide +kernel
theorem dX11_ask_25 : decode cX11_ask 25 = .ok (.invokevirtual 313, 3) := by decide +kernel
theorem dX11_ask_28 : decode cX11_ask 28 = .ok (.istore_n 3, 1) := by decide +kernel
theorem dX11_ask_29 : decode cX11_ask 29 = .ok (.iload_n 3, 1) := by decide +kernel
theorem dX11_ask_30 : decode cX11_ask 30 = .ok (.ifCond .ne 5, 3) := by decide +kernel
theorem dX11_ask_33 : decode cX11_ask 33 = .ok (.iconst (-1), 1) := by decide +kernel
theorem dX11_ask_34 : decode cX11_ask 34 = .ok (.ireturn, 1) := by decide +kernel
theorem dX11_ask_35 : decode cX11_ask 35 = .ok (.iconst (-1), 1) := by decide +kernel
theorem dX11_ask_36 : decode cX11_ask 36 = .ok (.istore 4, 2) := by decide +kernel
theorem dX11_ask_38 : decode cX11_ask 38 = .ok (.bipush 11, 2) := by decide +kernel
theorem dX11_ask_40 : decode cX11_ask 40 = .ok (.istore 5, 2) := by decide +kernel
theorem dX11_ask_42 : decode cX11_ask 42 = .ok (.iconst 0, 1) := by decide +kernel
theorem dX11_ask_43 : decode cX11_ask 43 = .ok (.istore 6, 2) := by decide +kernel
theorem dX11_ask_45 : decode cX11_ask 45 = .ok (.iload 6, 2) := by decide +kernel
theorem dX11_ask_47 : decode cX11_ask 47 = .ok (.aload_n 0, 1) := by decide +kernel
theorem dX11_ask_48 : decode cX11_ask 48 = .ok (.getfield 35, 3) := by decide +kernel
theorem dX11_ask_51 : decode cX11_ask 51 = .ok (.getfield 269, 3) := by decide +kernel
theorem dX11_ask_54 : decode cX11_ask 54 = .ok (.if_icmp .ge 56, 3) := by decide +kernel
theorem dX11_ask_57 : decode cX11_ask 57 = .ok (.aload_n 0, 1) := by decide +kernel
theorem dX11_ask_58 : decode cX11_ask 58 = .ok (.getfield 35, 3) := by decide +kernel
theorem dX11_ask_61 : decode cX11_ask 61 = .ok (.iload_n 1, 1) := by decide +kernel
theorem dX11_ask_62 : decode cX11_ask 62 = .ok (.iload 6, 2) := by decide +kernel
theorem dX11_ask_64 : decode cX11_ask 64 = .ok (.invokevirtual 196, 3) := by decide +kernel
theorem dX11_ask_67 : decode cX11_ask 67 = .ok (.ifCond .eq 18, 3) := by decide +kernel
theorem dX11_ask_70 : decode cX11_ask 70 = .ok (.aload_n 0, 1) := by decide +kernel
theorem dX11_ask_71 : decode cX11_ask 71 = .ok (.getfield 81, 3) := by decide +kernel
theorem dX11_ask_74 : decode cX11_ask 74 = .ok (.iload_n 1, 1) := by decide +kernel
theorem dX11_ask_75 : decode cX11_ask 75 = .ok (.iload 6, 2) := by decide +kernel
theorem dX11_ask_77 : decode cX11_ask 77 = .ok (.iload_n 2, 1) := by decide +kernel
theorem dX11_ask_78 : decode cX11_ask 78 = .ok (.iload_n 3, 1) := by decide +kernel
theorem dX11_ask_79 : decode cX11_ask 79 = .ok (.invokevirtual 316, 3) := by decide +kernel
theorem dX11_ask_82 : decode cX11_ask 82 = .ok (.goto 5, 3) := by decide +kernel
theorem dX11_ask_85 : decode cX11_ask 85 = .ok (.iload 5, 2) := by decide +kernel
theorem dX11_ask_87 : decode cX11_ask 87 = .ok (.istore 7, 2) := by decide +kernel
theorem dX11_ask_89 : decode cX11_ask 89 = .ok (.iload 7, 2) := by decide +kernel
theorem dX11_ask_91 : decode cX11_ask 91 = .ok (.iload 5, 2) := by decide +kernel
theorem dX11_ask_93 : decode cX11_ask 93 = .ok (.if_icmp .ge 11, 3) := by decide +kernel
theorem dX11_ask_96 : decode cX11_ask 96 = .ok (.iload 7, 2) := by decide +kernel
theorem dX11_ask_98 : decode cX11_ask 98 = .ok (.istore 5, 2) := by decide +kernel
theorem dX11_ask_100 : decode cX11_ask 100 = .ok (.iload 6, 2) := by decide +kernel
theorem dX11_ask_102 : decode cX11_ask 102 = .ok (.istore 4, 2) := by decide +kernel
theorem dX11_ask_104 : decode cX11_ask 104 = .ok (.iinc 6 1, 3) := by decide +kernel
theorem dX11_ask_107 : decode cX11_ask 107 = .ok (.goto (-62), 3) := by decide +kernel
theorem dX11_ask_110 : decode cX11_ask 110 = .ok (.iload 4, 2) := by decide +kernel
theorem dX11_ask_112 : decode cX11_ask 112 = .ok (.ireturn, 1) := by decide +kernel
set_option maxRecDepth 20000 in
theorem ggX11_game_X11_noPeace : GoodIn wsX11_game wsX11_noPeace := goodIn_r _ [8, 2, 9, 96, 97, 98, 99, 100, 101, 102, 103, 104, 105, 106, 107, 108, 109, 110, 111, 112, 113, 114, 115, 116, 117, 118, 119, 120, 121, 122, 123] rfl rfl
set_option maxRecDepth 20000 in
theorem gX11_game_X11_noPeace : GoodIn wsX11_game (wsV RX11 146 RX11 yX11_noPeace wsX11_noPeace) := goodIn_app (goodIn_r _ [4, 5, 6, 7] rfl rfl) ggX11_game_X11_noPeace
set_option maxRecDepth 20000 in
theorem ggX11_game_X5_nth : GoodIn wsX11_game wsX5_nth := goodIn_r _ [14, 15, 16, 114, 115, 116, 117, 118, 119, 120, 121, 122, 123] rfl rfl
set_option maxRecDepth 20000 in
theorem gX11_game_X5_nth : GoodIn wsX11_game (wsV RX11 319 RX5 yX5_nth wsX5_nth) := goodIn_app (goodIn_r _ [10, 11, 12, 13] rfl rfl) ggX11_game_X5_nth
set_option maxRecDepth 20000 in
theorem ggX11_game_X9_gains : GoodIn wsX11_game wsX9_gains := goodIn_r _ [21, 22, 23, 24, 25, 13, 26, 15, 27, 28, 29, 20, 30, 31, 32, 33, 34, 35, 36, 37, 38, 39, 40, 41, 42, 43, 44, 45, 46, 47, 48, 49, 50, 51, 52, 53, 54, 55, 56, 57, 58, 59, 60, 61, 62, 63, 64, 65, 66, 67, 68, 69, 70, 71, 72, 73, 74, 75, 76, 77, 78, 79, 80, 81, 82, 83, 84, 85, 86, 87, 88, 89, 90, 91, 92, 93, 94, 95, 124, 125, 126, 114, 115, 116, 117, 118, 119, 120, 121, 122, 123, 127, 128, 129, 130, 131, 132] rfl rfl
set_option maxRecDepth 20000 in
theorem gX11_game_X9_gains : GoodIn wsX11_game (wsV RX11 322 RX9 yX9_gains wsX9_gains) := goodIn_app (goodIn_r _ [17, 18, 19, 20] rfl rfl) ggX11_game_X9_gains
theorem dX11_game_0 : decode cX11_game 0 = .ok (.aload_n 0, 1) := by decide +kernel
theorem dX11_game_1 : decode cX11_game 1 = .ok (.invokevirtual 146, 3) := by decide +kernel
theorem dX11_game_4 : decode cX11_game 4 = .ok (.ifCond .ne 30, 3) := by decide +kernel
theorem dX11_game_7 : decode cX11_game 7 = .ok (.iload_n 1, 1) := by decide +kernel
theorem dX11_game_8 : decode cX11_game 8 = .ok (.ifCond .lt 26, 3) := by decide +kernel
theorem dX11_game_11 : decode cX11_game 11 = .ok (.iload_n 1, 1) := by decide +kernel
theorem dX11_game_12 : decode cX11_game 12 = .ok (.iconst 4, 1) := by decide +kernel
theorem dX11_game_13 : decode cX11_game 13 = .ok (.if_icmp .gt 21, 3) := by decide +kernel
theorem dX11_game_16 : decode cX11_game 16 = .ok (.iload_n 2, 1) := by decide +kernel
theorem dX11_game_17 : decode cX11_game 17 = .ok (.ifCond .lt 17, 3) := by decide +kernel
theorem dX11_game_20 : decode cX11_game 20 = .ok (.iload_n 2, 1) := by decide +kernel
theorem dX11_game_21 : decode cX11_game 21 = .ok (.iconst 4, 1) := by decide +kernel
theorem dX11_game_22 : decode cX11_game 22 = .ok (.if_icmp .gt 12, 3) := by decide +kernel
theorem dX11_game_25 : decode cX11_game 25 = .ok (.iload_n 3, 1) := by decide +kernel
theorem dX11_game_26 : decode cX11_game 26 = .ok (.ifCond .lt 8, 3) := by decide +kernel
theorem dX11_game_29 : decode cX11_game 29 = .ok (.iload_n 3, 1) := by decide +kernel
theorem dX11_game_30 : decode cX11_game 30 = .ok (.iconst 1, 1) := by decide +kernel
theorem dX11_game_31 : decode cX11_game 31 = .ok (.if_icmp .le 7, 3) := by decide +kernel
theorem dX11_game_34 : decode cX11_game 34 = .ok (.ldc_w 264, 3) := by decide +kernel
theorem dX11_game_37 : decode cX11_game 37 = .ok (.ireturn, 1) := by decide +kernel
theorem dX11_game_38 : decode cX11_game 38 = .ok (.aload_n 0, 1) := by decide +kernel
theorem dX11_game_39 : decode cX11_game 39 = .ok (.getfield 35, 3) := by decide +kernel
theorem dX11_game_42 : decode cX11_game 42 = .ok (.iconst 0, 1) := by decide +kernel
theorem dX11_game_43 : decode cX11_game 43 = .ok (.iload_n 1, 1) := by decide +kernel
theorem dX11_game_44 : decode cX11_game 44 = .ok (.invokevirtual 319, 3) := by decide +kernel
theorem dX11_game_47 : decode cX11_game 47 = .ok (.istore 4, 2) := by decide +kernel
theorem dX11_game_49 : decode cX11_game 49 = .ok (.aload_n 0, 1) := by decide +kernel
theorem dX11_game_50 : decode cX11_game 50 = .ok (.getfield 35, 3) := by decide +kernel
theorem dX11_game_53 : decode cX11_game 53 = .ok (.iconst 1, 1) := by decide +kernel
theorem dX11_game_54 : decode cX11_game 54 = .ok (.iload_n 2, 1) := by decide +kernel
theorem dX11_game_55 : decode cX11_game 55 = .ok (.invokevirtual 319, 3) := by decide +kernel
theorem dX11_game_58 : decode cX11_game 58 = .ok (.istore 5, 2) := by decide +kernel
theorem dX11_game_60 : decode cX11_game 60 = .ok (.iload_n 3, 1) := by decide +kernel
theorem dX11_game_61 : decode cX11_game 61 = .ok (.ifCond .ne 17, 3) := by decide +kernel
theorem dX11_game_64 : decode cX11_game 64 = .ok (.aload_n 0, 1) := by decide +kernel
theorem dX11_game_65 : decode cX11_game 65 = .ok (.getfield 51, 3) := by decide +kernel
theorem dX11_game_68 : decode cX11_game 68 = .ok (.iload 4, 2) := by decide +kernel
theorem dX11_game_70 : decode cX11_game 70 = .ok (.iload 5, 2) := by decide +kernel
theorem dX11_game_72 : decode cX11_game 72 = .ok (.invokevirtual 322, 3) := by decide +kernel
theorem dX11_game_75 : decode cX11_game 75 = .ok (.goto 14, 3) := by decide +kernel
theorem dX11_game_78 : decode cX11_game 78 = .ok (.aload_n 0, 1) := by decide +kernel
theorem dX11_game_79 : decode cX11_game 79 = .ok (.getfield 51, 3) := by decide +kernel
theorem dX11_game_82 : decode cX11_game 82 = .ok (.iload 5, 2) := by decide +kernel
theorem dX11_game_84 : decode cX11_game 84 = .ok (.iload 4, 2) := by decide +kernel
theorem dX11_game_86 : decode cX11_game 86 = .ok (.invokevirtual 322, 3) := by decide +kernel
theorem dX11_game_89 : decode cX11_game 89 = .ok (.ireturn, 1) := by decide +kernel
set_option maxRecDepth 20000 in
theorem ggX11_sure_X11_noPeace : GoodIn wsX11_sure wsX11_noPeace := goodIn_r _ [13, 2, 3, 104, 105, 106, 107, 108, 109, 110, 111, 112, 113, 114, 115, 116, 117, 118, 119, 120, 121, 122, 123, 124, 125, 126, 127, 128, 129, 130, 131] rfl rfl
set_option maxRecDepth 20000 in
theorem gX11_sure_X11_noPeace : GoodIn wsX11_sure (wsV RX11 146 RX11 yX11_noPeace wsX11_noPeace) := goodIn_app (goodIn_r _ [9, 10, 11, 12] rfl rfl) ggX11_sure_X11_noPeace
set_option maxRecDepth 20000 in
theorem ggX11_sure_X11_leastGain : GoodIn wsX11_sure wsX11_leastGain := goodIn_r _ [17, 2, 3, 18, 19, 20, 7, 21, 22, 23, 24, 25, 26, 27, 28, 29, 30, 31, 32, 33, 34, 35, 36, 37, 38, 39, 40, 41, 42, 43, 44, 45, 46, 47, 48, 49, 50, 51, 52, 53, 54, 55, 56, 57, 58, 59, 60, 61, 62, 63, 64, 65, 66, 67, 68, 69, 70, 71, 72, 73, 74, 75, 76, 77, 78, 79, 80, 81, 82, 83, 84, 85, 86, 87, 88, 6, 8, 89, 90, 91, 92, 93, 94, 95, 96, 97, 98, 99, 100, 101, 102, 103, 104, 105, 106, 107, 108, 109, 110, 111, 112, 113, 114, 115, 116, 117, 118, 119, 120, 121, 122, 123, 124, 125, 126, 127, 128, 129, 130, 131, 132, 133, 134, 135, 136, 137, 138, 139, 140] rfl rfl
set_option maxRecDepth 20000 in
theorem gX11_sure_X11_leastGain : GoodIn wsX11_sure (wsV RX11 325 RX11 yX11_leastGain wsX11_leastGain) := goodIn_app (goodIn_r _ [14, 15, 16, 12] rfl rfl) ggX11_sure_X11_leastGain
theorem dX11_sure_0 : decode cX11_sure 0 = .ok (.aload_n 0, 1) := by decide +kernel
theorem dX11_sure_1 : decode cX11_sure 1 = .ok (.invokevirtual 146, 3) := by decide +kernel
theorem dX11_sure_4 : decode cX11_sure 4 = .ok (.ifCond .ne 12, 3) := by decide +kernel
theorem dX11_sure_7 : decode cX11_sure 7 = .ok (.iload_n 1, 1) := by decide +kernel
theorem dX11_sure_8 : decode cX11_sure 8 = .ok (.ifCond .lt 8, 3) := by decide +kernel
theorem dX11_sure_11 : decode cX11_sure 11 = .ok (.iload_n 1, 1) := by decide +kernel
theorem dX11_sure_12 : decode cX11_sure 12 = .ok (.iconst 1, 1) := by decide +kernel
theorem dX11_sure_13 : decode cX11_sure 13 = .ok (.if_icmp .le 7, 3) := by decide +kernel
theorem dX11_sure_16 : decode cX11_sure 16 = .ok (.ldc_w 264, 3) := by decide +kernel
theorem dX11_sure_19 : decode cX11_sure 19 = .ok (.ireturn, 1) := by decide +kernel
theorem dX11_sure_20 : decode cX11_sure 20 = .ok (.bipush (-20), 2) := by decide +kernel
theorem dX11_sure_22 : decode cX11_sure 22 = .ok (.istore_n 2, 1) := by decide +kernel
theorem dX11_sure_23 : decode cX11_sure 23 = .ok (.iconst 0, 1) := by decide +kernel
theorem dX11_sure_24 : decode cX11_sure 24 = .ok (.istore_n 3, 1) := by decide +kernel
theorem dX11_sure_25 : decode cX11_sure 25 = .ok (.iload_n 3, 1) := by decide +kernel
theorem dX11_sure_26 : decode cX11_sure 26 = .ok (.aload_n 0, 1) := by decide +kernel
theorem dX11_sure_27 : decode cX11_sure 27 = .ok (.getfield 35, 3) := by decide +kernel
theorem dX11_sure_30 : decode cX11_sure 30 = .ok (.getfield 269, 3) := by decide +kernel
theorem dX11_sure_33 : decode cX11_sure 33 = .ok (.if_icmp .ge 32, 3) := by decide +kernel
theorem dX11_sure_36 : decode cX11_sure 36 = .ok (.aload_n 0, 1) := by decide +kernel
theorem dX11_sure_37 : decode cX11_sure 37 = .ok (.getfield 35, 3) := by decide +kernel
theorem dX11_sure_40 : decode cX11_sure 40 = .ok (.getfield 166, 3) := by decide +kernel
theorem dX11_sure_43 : decode cX11_sure 43 = .ok (.iload_n 3, 1) := by decide +kernel
theorem dX11_sure_44 : decode cX11_sure 44 = .ok (.iaload, 1) := by decide +kernel
theorem dX11_sure_45 : decode cX11_sure 45 = .ok (.iload_n 1, 1) := by decide +kernel
theorem dX11_sure_46 : decode cX11_sure 46 = .ok (.if_icmp .ne 13, 3) := by decide +kernel
theorem dX11_sure_49 : decode cX11_sure 49 = .ok (.iload_n 2, 1) := by decide +kernel
theorem dX11_sure_50 : decode cX11_sure 50 = .ok (.aload_n 0, 1) := by decide +kernel
theorem dX11_sure_51 : decode cX11_sure 51 = .ok (.iload_n 3, 1) := by decide +kernel
theorem dX11_sure_52 : decode cX11_sure 52 = .ok (.invokevirtual 325, 3) := by decide +kernel
theorem dX11_sure_55 : decode cX11_sure 55 = .ok (.invokestatic 328, 3) := by decide +kernel
theorem dX11_sure_58 : decode cX11_sure 58 = .ok (.istore_n 2, 1) := by decide +kernel
theorem dX11_sure_59 : decode cX11_sure 59 = .ok (.iinc 3 1, 3) := by decide +kernel
theorem dX11_sure_62 : decode cX11_sure 62 = .ok (.goto (-37), 3) := by decide +kernel
theorem dX11_sure_65 : decode cX11_sure 65 = .ok (.iload_n 2, 1) := by decide +kernel
theorem dX11_sure_66 : decode cX11_sure 66 = .ok (.ireturn, 1) := by decide +kernel
set_option maxRecDepth 20000 in
theorem ggX11_rests_X11_noPeace : GoodIn wsX11_rests wsX11_noPeace := goodIn_r _ [6, 1, 7, 104, 105, 106, 107, 108, 109, 110, 111, 112, 113, 114, 115, 116, 117, 118, 119, 120, 121, 122, 123, 124, 125, 126, 127, 128, 129, 130, 131] rfl rfl
set_option maxRecDepth 20000 in
theorem gX11_rests_X11_noPeace : GoodIn wsX11_rests (wsV RX11 146 RX11 yX11_noPeace wsX11_noPeace) := goodIn_app (goodIn_r _ [2, 3, 4, 5] rfl rfl) ggX11_rests_X11_noPeace
set_option maxRecDepth 20000 in
theorem ggX11_rests_X5_sizeOf : GoodIn wsX11_rests wsX5_sizeOf := goodIn_r _ [12, 13, 14, 122, 123, 124, 125, 126, 127, 128, 129, 130, 131] rfl rfl
set_option maxRecDepth 20000 in
theorem gX11_rests_X5_sizeOf : GoodIn wsX11_rests (wsV RX11 333 RX5 yX5_sizeOf wsX5_sizeOf) := goodIn_app (goodIn_r _ [8, 9, 10, 11] rfl rfl) ggX11_rests_X5_sizeOf
set_option maxRecDepth 20000 in
theorem ggX11_rests_X5_nth : GoodIn wsX11_rests wsX5_nth := goodIn_r _ [18, 13, 14, 122, 123, 124, 125, 126, 127, 128, 129, 130, 131] rfl rfl
set_option maxRecDepth 20000 in
theorem gX11_rests_X5_nth : GoodIn wsX11_rests (wsV RX11 319 RX5 yX5_nth wsX5_nth) := goodIn_app (goodIn_r _ [15, 16, 17, 11] rfl rfl) ggX11_rests_X5_nth
set_option maxRecDepth 20000 in
theorem ggX11_rests_X11_isRest : GoodIn wsX11_rests wsX11_isRest := goodIn_r _ [22, 23, 1, 7, 24, 25, 26, 27, 28, 29, 30, 31, 32, 33, 11, 34, 13, 35, 36, 37, 38, 39, 40, 41, 42, 43, 44, 45, 46, 47, 48, 49, 50, 51, 52, 53, 54, 55, 56, 57, 58, 59, 60, 61, 62, 63, 64, 65, 66, 67, 68, 69, 70, 71, 72, 73, 74, 75, 76, 77, 78, 79, 80, 81, 82, 83, 84, 85, 86, 87, 88, 89, 90, 91, 92, 93, 94, 95, 96, 97, 98, 99, 100, 101, 102, 103, 104, 105, 106, 107, 108, 109, 110, 111, 112, 113, 114, 115, 116, 117, 118, 119, 120, 121, 122, 123, 124, 125, 126, 127, 128, 129, 130, 131, 132, 133, 134, 135, 136, 137, 138, 139, 140] rfl rfl
set_option maxRecDepth 20000 in
theorem gX11_rests_X11_isRest : GoodIn wsX11_rests (wsV RX11 336 RX11 yX11_isRest wsX11_isRest) := goodIn_app (goodIn_r _ [19, 20, 21, 5] rfl rfl) ggX11_rests_X11_isRest
theorem dX11_rests_0 : decode cX11_rests 0 = .ok (.aload_n 0, 1) := by decide +kernel
theorem dX11_rests_1 : decode cX11_rests 1 = .ok (.invokevirtual 146, 3) := by decide +kernel
theorem dX11_rests_4 : decode cX11_rests 4 = .ok (.ifCond .ne 8, 3) := by decide +kernel
theorem dX11_rests_7 : decode cX11_rests 7 = .ok (.iload_n 1, 1) := by decide +kernel
theorem dX11_rests_8 : decode cX11_rests 8 = .ok (.iconst (-1), 1) := by decide +kernel
theorem dX11_rests_9 : decode cX11_rests 9 = .ok (.if_icmp .ge 5, 3) := by decide +kernel
theorem dX11_rests_12 : decode cX11_rests 12 = .ok (.iconst (-1), 1) := by decide +kernel
theorem dX11_rests_13 : decode cX11_rests 13 = .ok (.ireturn, 1) := by decide +kernel
theorem dX11_rests_14 : decode cX11_rests 14 = .ok (.iconst 0, 1) := by decide +kernel
theorem dX11_rests_15 : decode cX11_rests 15 = .ok (.istore_n 2, 1) := by decide +kernel
theorem dX11_rests_16 : decode cX11_rests 16 = .ok (.iconst 0, 1) := by decide +kernel
theorem dX11_rests_17 : decode cX11_rests 17 = .ok (.istore_n 3, 1) := by decide +kernel
theorem dX11_rests_18 : decode cX11_rests 18 = .ok (.iload_n 3, 1) := by decide +kernel
theorem dX11_rests_19 : decode cX11_rests 19 = .ok (.aload_n 0, 1) := by decide +kernel
theorem dX11_rests_20 : decode cX11_rests 20 = .ok (.getfield 35, 3) := by decide +kernel
theorem dX11_rests_23 : decode cX11_rests 23 = .ok (.iconst 0, 1) := by decide +kernel
theorem dX11_rests_24 : decode cX11_rests 24 = .ok (.invokevirtual 333, 3) := by decide +kernel
theorem dX11_rests_27 : decode cX11_rests 27 = .ok (.if_icmp .ge 73, 3) := by decide +kernel
theorem dX11_rests_30 : decode cX11_rests 30 = .ok (.iconst 0, 1) := by decide +kernel
theorem dX11_rests_31 : decode cX11_rests 31 = .ok (.istore 4, 2) := by decide +kernel
theorem dX11_rests_33 : decode cX11_rests 33 = .ok (.iload 4, 2) := by decide +kernel
theorem dX11_rests_35 : decode cX11_rests 35 = .ok (.aload_n 0, 1) := by decide +kernel
theorem dX11_rests_36 : decode cX11_rests 36 = .ok (.getfield 35, 3) := by decide +kernel
theorem dX11_rests_39 : decode cX11_rests 39 = .ok (.iconst 1, 1) := by decide +kernel
theorem dX11_rests_40 : decode cX11_rests 40 = .ok (.invokevirtual 333, 3) := by decide +kernel
theorem dX11_rests_43 : decode cX11_rests 43 = .ok (.if_icmp .ge 51, 3) := by decide +kernel
theorem dX11_rests_46 : decode cX11_rests 46 = .ok (.aload_n 0, 1) := by decide +kernel
theorem dX11_rests_47 : decode cX11_rests 47 = .ok (.aload_n 0, 1) := by decide +kernel
theorem dX11_rests_48 : decode cX11_rests 48 = .ok (.getfield 35, 3) := by decide +kernel
theorem dX11_rests_51 : decode cX11_rests 51 = .ok (.iconst 0, 1) := by decide +kernel
theorem dX11_rests_52 : decode cX11_rests 52 = .ok (.iload_n 3, 1) := by decide +kernel
theorem dX11_rests_53 : decode cX11_rests 53 = .ok (.invokevirtual 319, 3) := by decide +kernel
theorem dX11_rests_56 : decode cX11_rests 56 = .ok (.aload_n 0, 1) := by decide +kernel
theorem dX11_rests_57 : decode cX11_rests 57 = .ok (.getfield 35, 3) := by decide +kernel
theorem dX11_rests_60 : decode cX11_rests 60 = .ok (.iconst 1, 1) := by decide +kernel
theorem dX11_rests_61 : decode cX11_rests 61 = .ok (.iload 4, 2) := by decide +kernel
theorem dX11_rests_63 : decode cX11_rests 63 = .ok (.invokevirtual 319, 3) := by decide +kernel
theorem dX11_rests_66 : decode cX11_rests 66 = .ok (.invokevirtual 336, 3) := by decide +kernel
theorem dX11_rests_69 : decode cX11_rests 69 = .ok (.ifCond .eq 19, 3) := by decide +kernel
theorem dX11_rests_72 : decode cX11_rests 72 = .ok (.iload_n 2, 1) := by decide +kernel
theorem dX11_rests_73 : decode cX11_rests 73 = .ok (.iload_n 1, 1) := by decide +kernel
theorem dX11_rests_74 : decode cX11_rests 74 = .ok (.if_icmp .ne 11, 3) := by decide +kernel
theorem dX11_rests_77 : decode cX11_rests 77 = .ok (.bipush 10, 2) := by decide +kernel
theorem dX11_rests_79 : decode cX11_rests 79 = .ok (.iload_n 3, 1) := by decide +kernel
theorem dX11_rests_80 : decode cX11_rests 80 = .ok (.imul, 1) := by decide +kernel
theorem dX11_rests_81 : decode cX11_rests 81 = .ok (.iload 4, 2) := by decide +kernel
theorem dX11_rests_83 : decode cX11_rests 83 = .ok (.iadd, 1) := by decide +kernel
theorem dX11_rests_84 : decode cX11_rests 84 = .ok (.ireturn, 1) := by decide +kernel
theorem dX11_rests_85 : decode cX11_rests 85 = .ok (.iinc 2 1, 3) := by decide +kernel
theorem dX11_rests_88 : decode cX11_rests 88 = .ok (.iinc 4 1, 3) := by decide +kernel
theorem dX11_rests_91 : decode cX11_rests 91 = .ok (.goto (-58), 3) := by decide +kernel
theorem dX11_rests_94 : decode cX11_rests 94 = .ok (.iinc 3 1, 3) := by decide +kernel
theorem dX11_rests_97 : decode cX11_rests 97 = .ok (.goto (-79), 3) := by decide +kernel
theorem dX11_rests_100 : decode cX11_rests 100 = .ok (.iload_n 1, 1) := by decide +kernel
theorem dX11_rests_101 : decode cX11_rests 101 = .ok (.iconst (-1), 1) := by decide +kernel
theorem dX11_rests_102 : decode cX11_rests 102 = .ok (.if_icmp .ne 7, 3) := by decide +kernel
theorem dX11_rests_105 : decode cX11_rests 105 = .ok (.iload_n 2, 1) := by decide +kernel
theorem dX11_rests_106 : decode cX11_rests 106 = .ok (.goto 4, 3) := by decide +kernel
theorem dX11_rests_109 : decode cX11_rests 109 = .ok (.iconst (-1), 1) := by decide +kernel
theorem dX11_rests_110 : decode cX11_rests 110 = .ok (.ireturn, 1) := by decide +kernel
set_option maxRecDepth 20000 in
theorem ggX11_odds_X5_hasMatter : GoodIn wsX11_odds wsX5_hasMatter := goodIn_r _ [9, 10, 132, 133, 134, 135, 136, 137, 138, 139, 140, 141] rfl rfl
set_option maxRecDepth 20000 in
theorem gX11_odds_X5_hasMatter : GoodIn wsX11_odds (wsV RX11 184 RX5 yX5_hasMatter wsX5_hasMatter) := goodIn_app (goodIn_r _ [5, 6, 7, 8] rfl rfl) ggX11_odds_X5_hasMatter
set_option maxRecDepth 20000 in
theorem ggX11_odds_X5_unlike : GoodIn wsX11_odds wsX5_unlike := goodIn_r _ [14, 15, 16, 17, 18, 8, 19, 20, 132, 133, 134, 135, 136, 137, 138, 139, 140, 141] rfl rfl
set_option maxRecDepth 20000 in
theorem gX11_odds_X5_unlike : GoodIn wsX11_odds (wsV RX11 196 RX5 yX5_unlike wsX5_unlike) := goodIn_app (goodIn_r _ [11, 12, 13, 8] rfl rfl) ggX11_odds_X5_unlike
set_option maxRecDepth 20000 in
theorem ggX11_odds_X7_partsWarm : GoodIn wsX11_odds wsX7_partsWarm := goodIn_r _ [25, 26, 27, 28, 29, 30, 31, 32, 33, 34, 35, 36, 37, 38, 39, 40, 41, 42, 43, 24, 44, 45, 46, 47, 48, 49, 50, 51, 52, 53, 54, 55, 56, 57, 58, 59, 60, 61, 62, 63, 64, 65, 66, 67, 68, 69, 70, 71, 72, 73, 74, 75, 76, 77, 8, 78, 79, 80, 81, 82, 83, 84, 85, 86, 87, 88, 89, 90, 91, 92, 93, 94, 95, 96, 97, 98, 99, 100, 101, 102, 103, 104, 105, 106, 107, 108, 109, 110, 111, 112, 113, 142, 143, 144, 145, 146, 147, 148, 149, 132, 133, 134, 135, 136, 137, 138, 139, 140, 141, 150, 151, 152, 153, 154, 155] rfl rfl
set_option maxRecDepth 20000 in
theorem gX11_odds_X7_partsWarm : GoodIn wsX11_odds (wsV RX11 339 RX7 yX7_partsWarm wsX7_partsWarm) := goodIn_app (goodIn_r _ [21, 22, 23, 24] rfl rfl) ggX11_odds_X7_partsWarm
theorem dX11_odds_0 : decode cX11_odds 0 = .ok (.aload_n 0, 1) := by decide +kernel
theorem dX11_odds_1 : decode cX11_odds 1 = .ok (.getfield 35, 3) := by decide +kernel
theorem dX11_odds_4 : decode cX11_odds 4 = .ok (.iload_n 1, 1) := by decide +kernel
theorem dX11_odds_5 : decode cX11_odds 5 = .ok (.invokevirtual 184, 3) := by decide +kernel
theorem dX11_odds_8 : decode cX11_odds 8 = .ok (.ifCond .eq 15, 3) := by decide +kernel
theorem dX11_odds_11 : decode cX11_odds 11 = .ok (.aload_n 0, 1) := by decide +kernel
theorem dX11_odds_12 : decode cX11_odds 12 = .ok (.getfield 35, 3) := by decide +kernel
theorem dX11_odds_15 : decode cX11_odds 15 = .ok (.iload_n 2, 1) := by decide +kernel
theorem dX11_odds_16 : decode cX11_odds 16 = .ok (.iload_n 3, 1) := by decide +kernel
theorem dX11_odds_17 : decode cX11_odds 17 = .ok (.invokevirtual 196, 3) := by decide +kernel
theorem dX11_odds_20 : decode cX11_odds 20 = .ok (.ifCond .ne 5, 3) := by decide +kernel
theorem dX11_odds_23 : decode cX11_odds 23 = .ok (.iconst (-1), 1) := by decide +kernel
theorem dX11_odds_24 : decode cX11_odds 24 = .ok (.ireturn, 1) := by decide +kernel
theorem dX11_odds_25 : decode cX11_odds 25 = .ok (.iload 4, 2) := by decide +kernel
theorem dX11_odds_27 : decode cX11_odds 27 = .ok (.ifCond .lt 22, 3) := by decide +kernel
theorem dX11_odds_30 : decode cX11_odds 30 = .ok (.iload 4, 2) := by decide +kernel
theorem dX11_odds_32 : decode cX11_odds 32 = .ok (.bipush 8, 2) := by decide +kernel
theorem dX11_odds_34 : decode cX11_odds 34 = .ok (.if_icmp .gt 15, 3) := by decide +kernel
theorem dX11_odds_37 : decode cX11_odds 37 = .ok (.iload 5, 2) := by decide +kernel
theorem dX11_odds_39 : decode cX11_odds 39 = .ok (.ifCond .lt 10, 3) := by decide +kernel
theorem dX11_odds_42 : decode cX11_odds 42 = .ok (.iload 5, 2) := by decide +kernel
theorem dX11_odds_44 : decode cX11_odds 44 = .ok (.bipush 100, 2) := by decide +kernel
theorem dX11_odds_46 : decode cX11_odds 46 = .ok (.if_icmp .le 5, 3) := by decide +kernel
theorem dX11_odds_49 : decode cX11_odds 49 = .ok (.iconst (-1), 1) := by decide +kernel
theorem dX11_odds_50 : decode cX11_odds 50 = .ok (.ireturn, 1) := by decide +kernel
theorem dX11_odds_51 : decode cX11_odds 51 = .ok (.aload_n 0, 1) := by decide +kernel
theorem dX11_odds_52 : decode cX11_odds 52 = .ok (.getfield 97, 3) := by decide +kernel
theorem dX11_odds_55 : decode cX11_odds 55 = .ok (.aload_n 0, 1) := by decide +kernel
theorem dX11_odds_56 : decode cX11_odds 56 = .ok (.getfield 51, 3) := by decide +kernel
theorem dX11_odds_59 : decode cX11_odds 59 = .ok (.bipush 10, 2) := by decide +kernel
theorem dX11_odds_61 : decode cX11_odds 61 = .ok (.iload_n 2, 1) := by decide +kernel
theorem dX11_odds_62 : decode cX11_odds 62 = .ok (.imul, 1) := by decide +kernel
theorem dX11_odds_63 : decode cX11_odds 63 = .ok (.iload_n 3, 1) := by decide +kernel
theorem dX11_odds_64 : decode cX11_odds 64 = .ok (.iadd, 1) := by decide +kernel
theorem dX11_odds_65 : decode cX11_odds 65 = .ok (.aload_n 0, 1) := by decide +kernel
theorem dX11_odds_66 : decode cX11_odds 66 = .ok (.getfield 35, 3) := by decide +kernel
theorem dX11_odds_69 : decode cX11_odds 69 = .ok (.getfield 193, 3) := by decide +kernel
theorem dX11_odds_72 : decode cX11_odds 72 = .ok (.iload_n 1, 1) := by decide +kernel
theorem dX11_odds_73 : decode cX11_odds 73 = .ok (.iaload, 1) := by decide +kernel
theorem dX11_odds_74 : decode cX11_odds 74 = .ok (.iload 4, 2) := by decide +kernel
theorem dX11_odds_76 : decode cX11_odds 76 = .ok (.iload 5, 2) := by decide +kernel
theorem dX11_odds_78 : decode cX11_odds 78 = .ok (.invokevirtual 339, 3) := by decide +kernel
theorem dX11_odds_81 : decode cX11_odds 81 = .ok (.ireturn, 1) := by decide +kernel
set_option maxRecDepth 20000 in
theorem ggX11_shares_X11_noPeace : GoodIn wsX11_shares wsX11_noPeace := goodIn_r _ [6, 7, 8, 22, 23, 24, 25, 26, 27, 28, 29, 30, 31, 32, 33, 34, 35, 36, 37, 38, 39, 40, 41, 42, 43, 44, 45, 46, 47, 48, 49] rfl rfl
set_option maxRecDepth 20000 in
theorem gX11_shares_X11_noPeace : GoodIn wsX11_shares (wsV RX11 146 RX11 yX11_noPeace wsX11_noPeace) := goodIn_app (goodIn_r _ [2, 3, 4, 5] rfl rfl) ggX11_shares_X11_noPeace
set_option maxRecDepth 20000 in
theorem ggX11_shares_X9_freeOf : GoodIn wsX11_shares wsX9_freeOf := goodIn_r _ [13, 14, 15, 16, 17, 18, 19, 12, 20, 21, 50, 51, 52, 40, 41, 42, 43, 44, 45, 46, 47, 48, 49] rfl rfl
set_option maxRecDepth 20000 in
theorem gX11_shares_X9_freeOf : GoodIn wsX11_shares (wsV RX11 343 RX9 yX9_freeOf wsX9_freeOf) := goodIn_app (goodIn_r _ [9, 10, 11, 12] rfl rfl) ggX11_shares_X9_freeOf
theorem dX11_shares_0 : decode cX11_shares 0 = .ok (.aload_n 0, 1) := by decide +kernel
theorem dX11_shares_1 : decode cX11_shares 1 = .ok (.invokevirtual 146, 3) := by decide +kernel
theorem dX11_shares_4 : decode cX11_shares 4 = .ok (.ifCond .ne 23, 3) := by decide +kernel
theorem dX11_shares_7 : decode cX11_shares 7 = .ok (.iload_n 1, 1) := by decide +kernel
theorem dX11_shares_8 : decode cX11_shares 8 = .ok (.ifCond .lt 19, 3) := by decide +kernel
theorem dX11_shares_11 : decode cX11_shares 11 = .ok (.iload_n 1, 1) := by decide +kernel
theorem dX11_shares_12 : decode cX11_shares 12 = .ok (.iconst 1, 1) := by decide +kernel
theorem dX11_shares_13 : decode cX11_shares 13 = .ok (.if_icmp .gt 14, 3) := by decide +kernel
theorem dX11_shares_16 : decode cX11_shares 16 = .ok (.iload_n 2, 1) := by decide +kernel
theorem dX11_shares_17 : decode cX11_shares 17 = .ok (.ifCond .lt 10, 3) := by decide +kernel
theorem dX11_shares_20 : decode cX11_shares 20 = .ok (.iload_n 2, 1) := by decide +kernel
theorem dX11_shares_21 : decode cX11_shares 21 = .ok (.sipush 999, 3) := by decide +kernel
theorem dX11_shares_24 : decode cX11_shares 24 = .ok (.if_icmp .le 5, 3) := by decide +kernel
theorem dX11_shares_27 : decode cX11_shares 27 = .ok (.iconst (-1), 1) := by decide +kernel
theorem dX11_shares_28 : decode cX11_shares 28 = .ok (.ireturn, 1) := by decide +kernel
theorem dX11_shares_29 : decode cX11_shares 29 = .ok (.aload_n 0, 1) := by decide +kernel
theorem dX11_shares_30 : decode cX11_shares 30 = .ok (.getfield 51, 3) := by decide +kernel
theorem dX11_shares_33 : decode cX11_shares 33 = .ok (.iconst 0, 1) := by decide +kernel
theorem dX11_shares_34 : decode cX11_shares 34 = .ok (.invokevirtual 343, 3) := by decide +kernel
theorem dX11_shares_37 : decode cX11_shares 37 = .ok (.aload_n 0, 1) := by decide +kernel
theorem dX11_shares_38 : decode cX11_shares 38 = .ok (.getfield 51, 3) := by decide +kernel
theorem dX11_shares_41 : decode cX11_shares 41 = .ok (.iconst 1, 1) := by decide +kernel
theorem dX11_shares_42 : decode cX11_shares 42 = .ok (.invokevirtual 343, 3) := by decide +kernel
theorem dX11_shares_45 : decode cX11_shares 45 = .ok (.iadd, 1) := by decide +kernel
theorem dX11_shares_46 : decode cX11_shares 46 = .ok (.istore_n 3, 1) := by decide +kernel
theorem dX11_shares_47 : decode cX11_shares 47 = .ok (.iload_n 3, 1) := by decide +kernel
theorem dX11_shares_48 : decode cX11_shares 48 = .ok (.ifCond .ne 7, 3) := by decide +kernel
theorem dX11_shares_51 : decode cX11_shares 51 = .ok (.iconst 0, 1) := by decide +kernel
theorem dX11_shares_52 : decode cX11_shares 52 = .ok (.goto 15, 3) := by decide +kernel
theorem dX11_shares_55 : decode cX11_shares 55 = .ok (.iload_n 2, 1) := by decide +kernel
theorem dX11_shares_56 : decode cX11_shares 56 = .ok (.aload_n 0, 1) := by decide +kernel
theorem dX11_shares_57 : decode cX11_shares 57 = .ok (.getfield 51, 3) := by decide +kernel
theorem dX11_shares_60 : decode cX11_shares 60 = .ok (.iload_n 1, 1) := by decide +kernel
theorem dX11_shares_61 : decode cX11_shares 61 = .ok (.invokevirtual 343, 3) := by decide +kernel
theorem dX11_shares_64 : decode cX11_shares 64 = .ok (.imul, 1) := by decide +kernel
theorem dX11_shares_65 : decode cX11_shares 65 = .ok (.iload_n 3, 1) := by decide +kernel
theorem dX11_shares_66 : decode cX11_shares 66 = .ok (.idiv, 1) := by decide +kernel
theorem dX11_shares_67 : decode cX11_shares 67 = .ok (.ireturn, 1) := by decide +kernel
set_option maxRecDepth 20000 in
theorem ggX11_most_X11_noPeace : GoodIn wsX11_most wsX11_noPeace := goodIn_r _ [7, 2, 8, 89, 90, 91, 92, 93, 94, 95, 96, 97, 98, 99, 100, 101, 102, 103, 104, 105, 106, 107, 108, 109, 110, 111, 112, 113, 114, 115, 116] rfl rfl
set_option maxRecDepth 20000 in
theorem gX11_most_X11_noPeace : GoodIn wsX11_most (wsV RX11 146 RX11 yX11_noPeace wsX11_noPeace) := goodIn_app (goodIn_r _ [3, 4, 5, 6] rfl rfl) ggX11_most_X11_noPeace
set_option maxRecDepth 20000 in
theorem ggX11_most_X9_metBits : GoodIn wsX11_most wsX9_metBits := goodIn_r _ [13, 14, 15, 16, 17, 18, 12, 19, 20, 117, 118, 119, 107, 108, 109, 110, 111, 112, 113, 114, 115, 116] rfl rfl
set_option maxRecDepth 20000 in
theorem gX11_most_X9_metBits : GoodIn wsX11_most (wsV RX11 346 RX9 yX9_metBits wsX9_metBits) := goodIn_app (goodIn_r _ [9, 10, 11, 12] rfl rfl) ggX11_most_X9_metBits
set_option maxRecDepth 20000 in
theorem ggX11_most_X9_signedBits : GoodIn wsX11_most wsX9_signedBits := goodIn_r _ [24, 14, 25, 26, 27, 28, 12, 29, 20, 117, 118, 119, 107, 108, 109, 110, 111, 112, 113, 114, 115, 116] rfl rfl
set_option maxRecDepth 20000 in
theorem gX11_most_X9_signedBits : GoodIn wsX11_most (wsV RX11 349 RX9 yX9_signedBits wsX9_signedBits) := goodIn_app (goodIn_r _ [21, 22, 23, 12] rfl rfl) ggX11_most_X9_signedBits
set_option maxRecDepth 20000 in
theorem ggX11_most_X9_warmestPair : GoodIn wsX11_most wsX9_warmestPair := goodIn_r _ [33, 34, 35, 36, 12, 37, 14, 15, 38, 39, 40, 41, 42, 43, 44, 45, 46, 47, 48, 49, 50, 51, 52, 20, 53, 54, 55, 117, 118, 119, 107, 108, 109, 110, 111, 112, 113, 114, 115, 116] rfl rfl
set_option maxRecDepth 20000 in
theorem gX11_most_X9_warmestPair : GoodIn wsX11_most (wsV RX11 352 RX9 yX9_warmestPair wsX9_warmestPair) := goodIn_app (goodIn_r _ [30, 31, 32, 12] rfl rfl) ggX11_most_X9_warmestPair
set_option maxRecDepth 20000 in
theorem ggX11_most_X9_coldestPair : GoodIn wsX11_most wsX9_coldestPair := goodIn_r _ [59, 34, 35, 36, 12, 37, 14, 15, 38, 39, 40, 41, 42, 43, 44, 45, 46, 47, 48, 49, 50, 51, 52, 20, 53, 54, 55, 117, 118, 119, 107, 108, 109, 110, 111, 112, 113, 114, 115, 116] rfl rfl
set_option maxRecDepth 20000 in
theorem gX11_most_X9_coldestPair : GoodIn wsX11_most (wsV RX11 355 RX9 yX9_coldestPair wsX9_coldestPair) := goodIn_app (goodIn_r _ [56, 57, 58, 12] rfl rfl) ggX11_most_X9_coldestPair
set_option maxRecDepth 20000 in
theorem ggX11_most_X9_freest : GoodIn wsX11_most wsX9_freest := goodIn_r _ [63, 64, 65, 66, 12, 67, 14, 15, 20, 117, 118, 119, 107, 108, 109, 110, 111, 112, 113, 114, 115, 116] rfl rfl
set_option maxRecDepth 20000 in
theorem gX11_most_X9_freest : GoodIn wsX11_most (wsV RX11 358 RX9 yX9_freest wsX9_freest) := goodIn_app (goodIn_r _ [60, 61, 62, 12] rfl rfl) ggX11_most_X9_freest
set_option maxRecDepth 20000 in
theorem ggX11_most_X9_stiffest : GoodIn wsX11_most wsX9_stiffest := goodIn_r _ [71, 64, 65, 66, 12, 67, 14, 15, 20, 117, 118, 119, 107, 108, 109, 110, 111, 112, 113, 114, 115, 116] rfl rfl
set_option maxRecDepth 20000 in
theorem gX11_most_X9_stiffest : GoodIn wsX11_most (wsV RX11 361 RX9 yX9_stiffest wsX9_stiffest) := goodIn_app (goodIn_r _ [68, 69, 70, 12] rfl rfl) ggX11_most_X9_stiffest
set_option maxRecDepth 20000 in
theorem ggX11_most_X5_heaviest : GoodIn wsX11_most wsX5_heaviest := goodIn_r _ [75, 76, 77, 107, 108, 109, 110, 111, 112, 113, 114, 115, 116] rfl rfl
set_option maxRecDepth 20000 in
theorem gX11_most_X5_heaviest : GoodIn wsX11_most (wsV RX11 364 RX5 yX5_heaviest wsX5_heaviest) := goodIn_app (goodIn_r _ [72, 73, 74, 41] rfl rfl) ggX11_most_X5_heaviest
set_option maxRecDepth 20000 in
theorem ggX11_most_X9_bound : GoodIn wsX11_most wsX9_bound := goodIn_r _ [81, 14, 25, 82, 26, 27, 28, 12, 29, 20, 117, 118, 119, 107, 108, 109, 110, 111, 112, 113, 114, 115, 116] rfl rfl
set_option maxRecDepth 20000 in
theorem gX11_most_X9_bound : GoodIn wsX11_most (wsV RX11 367 RX9 yX9_bound wsX9_bound) := goodIn_app (goodIn_r _ [78, 79, 80, 12] rfl rfl) ggX11_most_X9_bound
set_option maxRecDepth 20000 in
theorem ggX11_most_X9_dueBits : GoodIn wsX11_most wsX9_dueBits := goodIn_r _ [86, 14, 25, 87, 88, 31, 32, 12, 33, 34, 35, 36, 37, 15, 38, 39, 40, 41, 42, 43, 44, 45, 46, 47, 48, 49, 50, 51, 52, 20, 53, 54, 55, 26, 27, 28, 29, 117, 118, 119, 107, 108, 109, 110, 111, 112, 113, 114, 115, 116] rfl rfl
set_option maxRecDepth 20000 in
theorem gX11_most_X9_dueBits : GoodIn wsX11_most (wsV RX11 370 RX9 yX9_dueBits wsX9_dueBits) := goodIn_app (goodIn_r _ [83, 84, 85, 12] rfl rfl) ggX11_most_X9_dueBits
theorem dX11_most_0 : decode cX11_most 0 = .ok (.aload_n 0, 1) := by decide +kernel
theorem dX11_most_1 : decode cX11_most 1 = .ok (.invokevirtual 146, 3) := by decide +kernel
theorem dX11_most_4 : decode cX11_most 4 = .ok (.ifCond .ne 13, 3) := by decide +kernel
theorem dX11_most_7 : decode cX11_most 7 = .ok (.iload_n 1, 1) := by decide +kernel
theorem dX11_most_8 : decode cX11_most 8 = .ok (.ifCond .lt 9, 3) := by decide +kernel
theorem dX11_most_11 : decode cX11_most 11 = .ok (.iload_n 1, 1) := by decide +kernel
theorem dX11_most_12 : decode cX11_most 12 = .ok (.bipush 8, 2) := by decide +kernel
theorem dX11_most_14 : decode cX11_most 14 = .ok (.if_icmp .le 5, 3) := by decide +kernel
theorem dX11_most_17 : decode cX11_most 17 = .ok (.iconst (-1), 1) := by decide +kernel
theorem dX11_most_18 : decode cX11_most 18 = .ok (.ireturn, 1) := by decide +kernel
theorem dX11_most_19 : decode cX11_most 19 = .ok (.iload_n 1, 1) := by decide +kernel
theorem dX11_most_20 : decode cX11_most 20 = .ok (.tableswitch 112 0 7 #[48, 56, 64, 72, 80, 88, 96, 104], 48) := by decide +kernel
theorem dX11_most_68 : decode cX11_most 68 = .ok (.aload_n 0, 1) := by decide +kernel
theorem dX11_most_69 : decode cX11_most 69 = .ok (.getfield 51, 3) := by decide +kernel
theorem dX11_most_72 : decode cX11_most 72 = .ok (.invokevirtual 346, 3) := by decide +kernel
theorem dX11_most_75 : decode cX11_most 75 = .ok (.ireturn, 1) := by decide +kernel
theorem dX11_most_76 : decode cX11_most 76 = .ok (.aload_n 0, 1) := by decide +kernel
theorem dX11_most_77 : decode cX11_most 77 = .ok (.getfield 51, 3) := by decide +kernel
theorem dX11_most_80 : decode cX11_most 80 = .ok (.invokevirtual 349, 3) := by decide +kernel
theorem dX11_most_83 : decode cX11_most 83 = .ok (.ireturn, 1) := by decide +kernel
theorem dX11_most_84 : decode cX11_most 84 = .ok (.aload_n 0, 1) := by decide +kernel
theorem dX11_most_85 : decode cX11_most 85 = .ok (.getfield 51, 3) := by decide +kernel
theorem dX11_most_88 : decode cX11_most 88 = .ok (.invokevirtual 352, 3) := by decide +kernel
theorem dX11_most_91 : decode cX11_most 91 = .ok (.ireturn, 1) := by decide +kernel
theorem dX11_most_92 : decode cX11_most 92 = .ok (.aload_n 0, 1) := by decide +kernel
theorem dX11_most_93 : decode cX11_most 93 = .ok (.getfield 51, 3) := by decide +kernel
theorem dX11_most_96 : decode cX11_most 96 = .ok (.invokevirtual 355, 3) := by decide +kernel
theorem dX11_most_99 : decode cX11_most 99 = .ok (.ireturn, 1) := by decide +kernel
theorem dX11_most_100 : decode cX11_most 100 = .ok (.aload_n 0, 1) := by decide +kernel
theorem dX11_most_101 : decode cX11_most 101 = .ok (.getfield 51, 3) := by decide +kernel
theorem dX11_most_104 : decode cX11_most 104 = .ok (.invokevirtual 358, 3) := by decide +kernel
theorem dX11_most_107 : decode cX11_most 107 = .ok (.ireturn, 1) := by decide +kernel
theorem dX11_most_108 : decode cX11_most 108 = .ok (.aload_n 0, 1) := by decide +kernel
theorem dX11_most_109 : decode cX11_most 109 = .ok (.getfield 51, 3) := by decide +kernel
theorem dX11_most_112 : decode cX11_most 112 = .ok (.invokevirtual 361, 3) := by decide +kernel
theorem dX11_most_115 : decode cX11_most 115 = .ok (.ireturn, 1) := by decide +kernel
theorem dX11_most_116 : decode cX11_most 116 = .ok (.aload_n 0, 1) := by decide +kernel
theorem dX11_most_117 : decode cX11_most 117 = .ok (.getfield 35, 3) := by decide +kernel
theorem dX11_most_120 : decode cX11_most 120 = .ok (.invokevirtual 364, 3) := by decide +kernel
theorem dX11_most_123 : decode cX11_most 123 = .ok (.ireturn, 1) := by decide +kernel
theorem dX11_most_124 : decode cX11_most 124 = .ok (.aload_n 0, 1) := by decide +kernel
theorem dX11_most_125 : decode cX11_most 125 = .ok (.getfield 51, 3) := by decide +kernel
theorem dX11_most_128 : decode cX11_most 128 = .ok (.invokevirtual 367, 3) := by decide +kernel
theorem dX11_most_131 : decode cX11_most 131 = .ok (.ireturn, 1) := by decide +kernel
theorem dX11_most_132 : decode cX11_most 132 = .ok (.aload_n 0, 1) := by decide +kernel
theorem dX11_most_133 : decode cX11_most 133 = .ok (.getfield 51, 3) := by decide +kernel
theorem dX11_most_136 : decode cX11_most 136 = .ok (.invokevirtual 370, 3) := by decide +kernel
theorem dX11_most_139 : decode cX11_most 139 = .ok (.ireturn, 1) := by decide +kernel
set_option maxRecDepth 20000 in
theorem ggX11_allies_X5_hasGlove : GoodIn wsX11_allies wsX5_hasGlove := goodIn_r _ [7, 8, 38, 39, 40, 41, 42, 43, 44, 45, 46, 47] rfl rfl
set_option maxRecDepth 20000 in
theorem gX11_allies_X5_hasGlove : GoodIn wsX11_allies (wsV RX11 155 RX5 yX5_hasGlove wsX5_hasGlove) := goodIn_app (goodIn_r _ [3, 4, 5, 6] rfl rfl) ggX11_allies_X5_hasGlove
set_option maxRecDepth 20000 in
theorem ggX11_allies_X5_unlike : GoodIn wsX11_allies wsX5_unlike := goodIn_r _ [12, 13, 14, 4, 5, 6, 7, 8, 38, 39, 40, 41, 42, 43, 44, 45, 46, 47] rfl rfl
set_option maxRecDepth 20000 in
theorem gX11_allies_X5_unlike : GoodIn wsX11_allies (wsV RX11 196 RX5 yX5_unlike wsX5_unlike) := goodIn_app (goodIn_r _ [9, 10, 11, 6] rfl rfl) ggX11_allies_X5_unlike
set_option maxRecDepth 20000 in
theorem ggX11_allies_X5_sameAim : GoodIn wsX11_allies wsX5_sameAim := goodIn_r _ [18, 19, 38, 39, 40, 41, 42, 43, 44, 45, 46, 47] rfl rfl
set_option maxRecDepth 20000 in
theorem gX11_allies_X5_sameAim : GoodIn wsX11_allies (wsV RX11 373 RX5 yX5_sameAim wsX5_sameAim) := goodIn_app (goodIn_r _ [15, 16, 17, 6] rfl rfl) ggX11_allies_X5_sameAim
theorem dX11_allies_0 : decode cX11_allies 0 = .ok (.aload_n 0, 1) := by decide +kernel
theorem dX11_allies_1 : decode cX11_allies 1 = .ok (.getfield 35, 3) := by decide +kernel
theorem dX11_allies_4 : decode cX11_allies 4 = .ok (.iload_n 1, 1) := by decide +kernel
theorem dX11_allies_5 : decode cX11_allies 5 = .ok (.invokevirtual 155, 3) := by decide +kernel
theorem dX11_allies_8 : decode cX11_allies 8 = .ok (.ifCond .ne 5, 3) := by decide +kernel
theorem dX11_allies_11 : decode cX11_allies 11 = .ok (.iconst (-1), 1) := by decide +kernel
theorem dX11_allies_12 : decode cX11_allies 12 = .ok (.ireturn, 1) := by decide +kernel
theorem dX11_allies_13 : decode cX11_allies 13 = .ok (.iconst 0, 1) := by decide +kernel
theorem dX11_allies_14 : decode cX11_allies 14 = .ok (.istore_n 2, 1) := by decide +kernel
theorem dX11_allies_15 : decode cX11_allies 15 = .ok (.iconst 0, 1) := by decide +kernel
theorem dX11_allies_16 : decode cX11_allies 16 = .ok (.istore_n 3, 1) := by decide +kernel
theorem dX11_allies_17 : decode cX11_allies 17 = .ok (.iload_n 3, 1) := by decide +kernel
theorem dX11_allies_18 : decode cX11_allies 18 = .ok (.aload_n 0, 1) := by decide +kernel
theorem dX11_allies_19 : decode cX11_allies 19 = .ok (.getfield 35, 3) := by decide +kernel
theorem dX11_allies_22 : decode cX11_allies 22 = .ok (.getfield 269, 3) := by decide +kernel
theorem dX11_allies_25 : decode cX11_allies 25 = .ok (.if_icmp .ge 40, 3) := by decide +kernel
theorem dX11_allies_28 : decode cX11_allies 28 = .ok (.aload_n 0, 1) := by decide +kernel
theorem dX11_allies_29 : decode cX11_allies 29 = .ok (.getfield 35, 3) := by decide +kernel
theorem dX11_allies_32 : decode cX11_allies 32 = .ok (.iload_n 1, 1) := by decide +kernel
theorem dX11_allies_33 : decode cX11_allies 33 = .ok (.iload_n 3, 1) := by decide +kernel
theorem dX11_allies_34 : decode cX11_allies 34 = .ok (.invokevirtual 196, 3) := by decide +kernel
theorem dX11_allies_37 : decode cX11_allies 37 = .ok (.ifCond .eq 22, 3) := by decide +kernel
theorem dX11_allies_40 : decode cX11_allies 40 = .ok (.aload_n 0, 1) := by decide +kernel
theorem dX11_allies_41 : decode cX11_allies 41 = .ok (.getfield 35, 3) := by decide +kernel
theorem dX11_allies_44 : decode cX11_allies 44 = .ok (.iload_n 1, 1) := by decide +kernel
theorem dX11_allies_45 : decode cX11_allies 45 = .ok (.iload_n 3, 1) := by decide +kernel
theorem dX11_allies_46 : decode cX11_allies 46 = .ok (.invokevirtual 373, 3) := by decide +kernel
theorem dX11_allies_49 : decode cX11_allies 49 = .ok (.iconst 1, 1) := by decide +kernel
theorem dX11_allies_50 : decode cX11_allies 50 = .ok (.if_icmp .ne 9, 3) := by decide +kernel
theorem dX11_allies_53 : decode cX11_allies 53 = .ok (.iload_n 2, 1) := by decide +kernel
theorem dX11_allies_54 : decode cX11_allies 54 = .ok (.iconst 1, 1) := by decide +kernel
theorem dX11_allies_55 : decode cX11_allies 55 = .ok (.iload_n 3, 1) := by decide +kernel
theorem dX11_allies_56 : decode cX11_allies 56 = .ok (.ishl, 1) := by decide +kernel
theorem dX11_allies_57 : decode cX11_allies 57 = .ok (.ior, 1) := by decide +kernel
theorem dX11_allies_58 : decode cX11_allies 58 = .ok (.istore_n 2, 1) := by decide +kernel
theorem dX11_allies_59 : decode cX11_allies 59 = .ok (.iinc 3 1, 3) := by decide +kernel
theorem dX11_allies_62 : decode cX11_allies 62 = .ok (.goto (-45), 3) := by decide +kernel
theorem dX11_allies_65 : decode cX11_allies 65 = .ok (.iload_n 2, 1) := by decide +kernel
theorem dX11_allies_66 : decode cX11_allies 66 = .ok (.ireturn, 1) := by decide +kernel
set_option maxRecDepth 20000 in
theorem ggX11_image_X11_noPeace : GoodIn wsX11_image wsX11_noPeace := goodIn_r _ [10, 11, 12, 34, 35, 36, 37, 38, 39, 40, 41, 42, 43, 44, 45, 46, 47, 48, 49, 50, 51, 52, 53, 54, 55, 56, 57, 58, 59, 60, 61] rfl rfl
set_option maxRecDepth 20000 in
theorem gX11_image_X11_noPeace : GoodIn wsX11_image (wsV RX11 146 RX11 yX11_noPeace wsX11_noPeace) := goodIn_app (goodIn_r _ [6, 7, 8, 9] rfl rfl) ggX11_image_X11_noPeace
set_option maxRecDepth 20000 in
theorem ggX11_image_X9_copyFrom : GoodIn wsX11_image wsX9_copyFrom := goodIn_r _ [17, 18, 19, 20, 21, 22, 62, 63, 64] rfl rfl
set_option maxRecDepth 20000 in
theorem gX11_image_X9_copyFrom : GoodIn wsX11_image (wsV RX11 286 RX9 yX9_copyFrom wsX9_copyFrom) := goodIn_app (goodIn_r _ [13, 14, 15, 16] rfl rfl) ggX11_image_X9_copyFrom
set_option maxRecDepth 20000 in
theorem ggX11_image_X3_copyFrom : GoodIn wsX11_image wsX3_copyFrom := goodIn_r _ [27, 28, 29, 20, 21, 22, 65] rfl rfl
set_option maxRecDepth 20000 in
theorem gX11_image_X3_copyFrom : GoodIn wsX11_image (wsV RX11 376 RX3 yX3_copyFrom wsX3_copyFrom) := goodIn_app (goodIn_r _ [23, 24, 25, 26] rfl rfl) ggX11_image_X3_copyFrom
set_option maxRecDepth 20000 in
theorem ggX11_image_X9_day : GoodIn wsX11_image wsX9_day := goodIn_r _ [33, 18, 62, 63, 64] rfl rfl
set_option maxRecDepth 20000 in
theorem gX11_image_X9_day : GoodIn wsX11_image (wsV RX11 239 RX9 yX9_day wsX9_day) := goodIn_app (goodIn_r _ [30, 31, 32, 16] rfl rfl) ggX11_image_X9_day
theorem dX11_image_0 : decode cX11_image 0 = .ok (.aload_n 0, 1) := by decide +kernel
theorem dX11_image_1 : decode cX11_image 1 = .ok (.invokevirtual 146, 3) := by decide +kernel
theorem dX11_image_4 : decode cX11_image 4 = .ok (.ifCond .eq 5, 3) := by decide +kernel
theorem dX11_image_7 : decode cX11_image 7 = .ok (.iconst (-1), 1) := by decide +kernel
theorem dX11_image_8 : decode cX11_image 8 = .ok (.ireturn, 1) := by decide +kernel
theorem dX11_image_9 : decode cX11_image 9 = .ok (.aload_n 0, 1) := by decide +kernel
theorem dX11_image_10 : decode cX11_image 10 = .ok (.getfield 72, 3) := by decide +kernel
theorem dX11_image_13 : decode cX11_image 13 = .ok (.aload_n 0, 1) := by decide +kernel
theorem dX11_image_14 : decode cX11_image 14 = .ok (.getfield 51, 3) := by decide +kernel
theorem dX11_image_17 : decode cX11_image 17 = .ok (.invokevirtual 286, 3) := by decide +kernel
theorem dX11_image_20 : decode cX11_image 20 = .ok (.aload_n 0, 1) := by decide +kernel
theorem dX11_image_21 : decode cX11_image 21 = .ok (.getfield 75, 3) := by decide +kernel
theorem dX11_image_24 : decode cX11_image 24 = .ok (.aload_n 0, 1) := by decide +kernel
theorem dX11_image_25 : decode cX11_image 25 = .ok (.getfield 61, 3) := by decide +kernel
theorem dX11_image_28 : decode cX11_image 28 = .ok (.invokevirtual 376, 3) := by decide +kernel
theorem dX11_image_31 : decode cX11_image 31 = .ok (.aload_n 0, 1) := by decide +kernel
theorem dX11_image_32 : decode cX11_image 32 = .ok (.iconst 1, 1) := by decide +kernel
theorem dX11_image_33 : decode cX11_image 33 = .ok (.putfield 105, 3) := by decide +kernel
theorem dX11_image_36 : decode cX11_image 36 = .ok (.aload_n 0, 1) := by decide +kernel
theorem dX11_image_37 : decode cX11_image 37 = .ok (.getfield 51, 3) := by decide +kernel
theorem dX11_image_40 : decode cX11_image 40 = .ok (.invokevirtual 239, 3) := by decide +kernel
theorem dX11_image_43 : decode cX11_image 43 = .ok (.ireturn, 1) := by decide +kernel
set_option maxRecDepth 20000 in
theorem ggX11_back_X9_copyFrom : GoodIn wsX11_back wsX9_copyFrom := goodIn_r _ [11, 12, 13, 14, 15, 16, 52, 53, 54] rfl rfl
set_option maxRecDepth 20000 in
theorem gX11_back_X9_copyFrom : GoodIn wsX11_back (wsV RX11 286 RX9 yX9_copyFrom wsX9_copyFrom) := goodIn_app (goodIn_r _ [7, 8, 9, 10] rfl rfl) ggX11_back_X9_copyFrom
set_option maxRecDepth 20000 in
theorem ggX11_back_X3_copyFrom : GoodIn wsX11_back wsX3_copyFrom := goodIn_r _ [21, 22, 23, 14, 15, 16, 55] rfl rfl
set_option maxRecDepth 20000 in
theorem gX11_back_X3_copyFrom : GoodIn wsX11_back (wsV RX11 376 RX3 yX3_copyFrom wsX3_copyFrom) := goodIn_app (goodIn_r _ [17, 18, 19, 20] rfl rfl) ggX11_back_X3_copyFrom
set_option maxRecDepth 20000 in
theorem ggX11_back_X0_forget : GoodIn wsX11_back wsX0_forget := goodIn_r _ [28, 29, 56, 57, 58] rfl rfl
set_option maxRecDepth 20000 in
theorem gX11_back_X0_forget : GoodIn wsX11_back (wsV RX11 379 RX0 yX0_forget wsX0_forget) := goodIn_app (goodIn_r _ [24, 25, 26, 27] rfl rfl) ggX11_back_X0_forget
set_option maxRecDepth 20000 in
theorem ggX11_back_X9_day : GoodIn wsX11_back wsX9_day := goodIn_r _ [33, 12, 52, 53, 54] rfl rfl
set_option maxRecDepth 20000 in
theorem gX11_back_X9_day : GoodIn wsX11_back (wsV RX11 239 RX9 yX9_day wsX9_day) := goodIn_app (goodIn_r _ [30, 31, 32, 10] rfl rfl) ggX11_back_X9_day
theorem dX11_back_0 : decode cX11_back 0 = .ok (.aload_n 0, 1) := by decide +kernel
theorem dX11_back_1 : decode cX11_back 1 = .ok (.getfield 105, 3) := by decide +kernel
theorem dX11_back_4 : decode cX11_back 4 = .ok (.ifCond .ne 5, 3) := by decide +kernel
theorem dX11_back_7 : decode cX11_back 7 = .ok (.iconst (-1), 1) := by decide +kernel
theorem dX11_back_8 : decode cX11_back 8 = .ok (.ireturn, 1) := by decide +kernel
theorem dX11_back_9 : decode cX11_back 9 = .ok (.aload_n 0, 1) := by decide +kernel
theorem dX11_back_10 : decode cX11_back 10 = .ok (.getfield 51, 3) := by decide +kernel
theorem dX11_back_13 : decode cX11_back 13 = .ok (.aload_n 0, 1) := by decide +kernel
theorem dX11_back_14 : decode cX11_back 14 = .ok (.getfield 72, 3) := by decide +kernel
theorem dX11_back_17 : decode cX11_back 17 = .ok (.invokevirtual 286, 3) := by decide +kernel
theorem dX11_back_20 : decode cX11_back 20 = .ok (.aload_n 0, 1) := by decide +kernel
theorem dX11_back_21 : decode cX11_back 21 = .ok (.getfield 61, 3) := by decide +kernel
theorem dX11_back_24 : decode cX11_back 24 = .ok (.aload_n 0, 1) := by decide +kernel
theorem dX11_back_25 : decode cX11_back 25 = .ok (.getfield 75, 3) := by decide +kernel
theorem dX11_back_28 : decode cX11_back 28 = .ok (.invokevirtual 376, 3) := by decide +kernel
theorem dX11_back_31 : decode cX11_back 31 = .ok (.aload_n 0, 1) := by decide +kernel
theorem dX11_back_32 : decode cX11_back 32 = .ok (.getfield 68, 3) := by decide +kernel
theorem dX11_back_35 : decode cX11_back 35 = .ok (.invokevirtual 379, 3) := by decide +kernel
theorem dX11_back_38 : decode cX11_back 38 = .ok (.aload_n 0, 1) := by decide +kernel
theorem dX11_back_39 : decode cX11_back 39 = .ok (.getfield 51, 3) := by decide +kernel
theorem dX11_back_42 : decode cX11_back 42 = .ok (.invokevirtual 239, 3) := by decide +kernel
theorem dX11_back_45 : decode cX11_back 45 = .ok (.ireturn, 1) := by decide +kernel
set_option maxRecDepth 20000 in
theorem ggX11_count_X9_day : GoodIn wsX11_count wsX9_day := goodIn_r _ [20, 21, 98, 99, 100] rfl rfl
set_option maxRecDepth 20000 in
theorem gX11_count_X9_day : GoodIn wsX11_count (wsV RX11 239 RX9 yX9_day wsX9_day) := goodIn_app (goodIn_r _ [16, 17, 18, 19] rfl rfl) ggX11_count_X9_day
set_option maxRecDepth 20000 in
theorem ggX11_count_X9_warmthOfAll : GoodIn wsX11_count wsX9_warmthOfAll := goodIn_r _ [25, 21, 98, 99, 100] rfl rfl
set_option maxRecDepth 20000 in
theorem gX11_count_X9_warmthOfAll : GoodIn wsX11_count (wsV RX11 385 RX9 yX9_warmthOfAll wsX9_warmthOfAll) := goodIn_app (goodIn_r _ [22, 23, 24, 19] rfl rfl) ggX11_count_X9_warmthOfAll
set_option maxRecDepth 20000 in
theorem ggX11_count_X9_metBits : GoodIn wsX11_count wsX9_metBits := goodIn_r _ [29, 30, 31, 32, 33, 34, 19, 35, 21, 98, 99, 100, 69, 70, 71, 72, 73, 74, 75, 76, 77, 78] rfl rfl
set_option maxRecDepth 20000 in
theorem gX11_count_X9_metBits : GoodIn wsX11_count (wsV RX11 346 RX9 yX9_metBits wsX9_metBits) := goodIn_app (goodIn_r _ [26, 27, 28, 19] rfl rfl) ggX11_count_X9_metBits
set_option maxRecDepth 20000 in
theorem ggX11_count_J6_bitCount_0f7a4 : GoodIn wsX11_count wsJ6_bitCount_0f7a4 := goodIn_r _ [39, 40, 41, 42] rfl rfl
set_option maxRecDepth 20000 in
theorem gX11_count_J6_bitCount_0f7a4 : GoodIn wsX11_count (va_wsS RX11 388 yJ6_bitCount_0f7a4 wsJ6_bitCount_0f7a4) := goodIn_app (goodIn_r _ [36, 37, 38] rfl rfl) ggX11_count_J6_bitCount_0f7a4
set_option maxRecDepth 20000 in
theorem ggX11_count_X3_lengthOn : GoodIn wsX11_count wsX3_lengthOn := goodIn_r _ [46, 47, 48, 49, 50] rfl rfl
set_option maxRecDepth 20000 in
theorem gX11_count_X3_lengthOn : GoodIn wsX11_count (va_wsS RX11 255 yX3_lengthOn wsX3_lengthOn) := goodIn_app (goodIn_r _ [43, 44, 45] rfl rfl) ggX11_count_X3_lengthOn
theorem dX11_count_0 : decode cX11_count 0 = .ok (.iload_n 1, 1) := by decide +kernel
theorem dX11_count_1 : decode cX11_count 1 = .ok (.tableswitch 162 0 11 #[63, 71, 79, 87, 95, 103, 111, 119, 130, 135, 143, 154], 63) := by decide +kernel
theorem dX11_count_64 : decode cX11_count 64 = .ok (.aload_n 0, 1) := by decide +kernel
theorem dX11_count_65 : decode cX11_count 65 = .ok (.getfield 35, 3) := by decide +kernel
theorem dX11_count_68 : decode cX11_count 68 = .ok (.getfield 269, 3) := by decide +kernel
theorem dX11_count_71 : decode cX11_count 71 = .ok (.ireturn, 1) := by decide +kernel
theorem dX11_count_72 : decode cX11_count 72 = .ok (.aload_n 0, 1) := by decide +kernel
theorem dX11_count_73 : decode cX11_count 73 = .ok (.getfield 35, 3) := by decide +kernel
theorem dX11_count_76 : decode cX11_count 76 = .ok (.getfield 382, 3) := by decide +kernel
theorem dX11_count_79 : decode cX11_count 79 = .ok (.ireturn, 1) := by decide +kernel
theorem dX11_count_80 : decode cX11_count 80 = .ok (.aload_n 0, 1) := by decide +kernel
theorem dX11_count_81 : decode cX11_count 81 = .ok (.getfield 42, 3) := by decide +kernel
theorem dX11_count_84 : decode cX11_count 84 = .ok (.getfield 204, 3) := by decide +kernel
theorem dX11_count_87 : decode cX11_count 87 = .ok (.ireturn, 1) := by decide +kernel
theorem dX11_count_88 : decode cX11_count 88 = .ok (.aload_n 0, 1) := by decide +kernel
theorem dX11_count_89 : decode cX11_count 89 = .ok (.getfield 10, 3) := by decide +kernel
theorem dX11_count_92 : decode cX11_count 92 = .ok (.getfield 121, 3) := by decide +kernel
theorem dX11_count_95 : decode cX11_count 95 = .ok (.ireturn, 1) := by decide +kernel
theorem dX11_count_96 : decode cX11_count 96 = .ok (.aload_n 0, 1) := by decide +kernel
theorem dX11_count_97 : decode cX11_count 97 = .ok (.getfield 42, 3) := by decide +kernel
theorem dX11_count_100 : decode cX11_count 100 = .ok (.getfield 207, 3) := by decide +kernel
theorem dX11_count_103 : decode cX11_count 103 = .ok (.ireturn, 1) := by decide +kernel
theorem dX11_count_104 : decode cX11_count 104 = .ok (.aload_n 0, 1) := by decide +kernel
theorem dX11_count_105 : decode cX11_count 105 = .ok (.getfield 51, 3) := by decide +kernel
theorem dX11_count_108 : decode cX11_count 108 = .ok (.invokevirtual 239, 3) := by decide +kernel
theorem dX11_count_111 : decode cX11_count 111 = .ok (.ireturn, 1) := by decide +kernel
theorem dX11_count_112 : decode cX11_count 112 = .ok (.aload_n 0, 1) := by decide +kernel
theorem dX11_count_113 : decode cX11_count 113 = .ok (.getfield 51, 3) := by decide +kernel
theorem dX11_count_116 : decode cX11_count 116 = .ok (.invokevirtual 385, 3) := by decide +kernel
theorem dX11_count_119 : decode cX11_count 119 = .ok (.ireturn, 1) := by decide +kernel
theorem dX11_count_120 : decode cX11_count 120 = .ok (.aload_n 0, 1) := by decide +kernel
theorem dX11_count_121 : decode cX11_count 121 = .ok (.getfield 51, 3) := by decide +kernel
theorem dX11_count_124 : decode cX11_count 124 = .ok (.invokevirtual 346, 3) := by decide +kernel
theorem dX11_count_127 : decode cX11_count 127 = .ok (.invokestatic 388, 3) := by decide +kernel
theorem dX11_count_130 : decode cX11_count 130 = .ok (.ireturn, 1) := by decide +kernel
theorem dX11_count_131 : decode cX11_count 131 = .ok (.aload_n 0, 1) := by decide +kernel
theorem dX11_count_132 : decode cX11_count 132 = .ok (.getfield 109, 3) := by decide +kernel
theorem dX11_count_135 : decode cX11_count 135 = .ok (.ireturn, 1) := by decide +kernel
theorem dX11_count_136 : decode cX11_count 136 = .ok (.aload_n 0, 1) := by decide +kernel
theorem dX11_count_137 : decode cX11_count 137 = .ok (.getfield 81, 3) := by decide +kernel
theorem dX11_count_140 : decode cX11_count 140 = .ok (.getfield 309, 3) := by decide +kernel
theorem dX11_count_143 : decode cX11_count 143 = .ok (.ireturn, 1) := by decide +kernel
theorem dX11_count_144 : decode cX11_count 144 = .ok (.aload_n 0, 1) := by decide +kernel
theorem dX11_count_145 : decode cX11_count 145 = .ok (.getfield 51, 3) := by decide +kernel
theorem dX11_count_148 : decode cX11_count 148 = .ok (.invokevirtual 239, 3) := by decide +kernel
theorem dX11_count_151 : decode cX11_count 151 = .ok (.invokestatic 255, 3) := by decide +kernel
theorem dX11_count_154 : decode cX11_count 154 = .ok (.ireturn, 1) := by decide +kernel
theorem dX11_count_155 : decode cX11_count 155 = .ok (.aload_n 0, 1) := by decide +kernel
theorem dX11_count_156 : decode cX11_count 156 = .ok (.getfield 68, 3) := by decide +kernel
theorem dX11_count_159 : decode cX11_count 159 = .ok (.getfield 251, 3) := by decide +kernel
theorem dX11_count_162 : decode cX11_count 162 = .ok (.ireturn, 1) := by decide +kernel
theorem dX11_count_163 : decode cX11_count 163 = .ok (.ldc_w 264, 3) := by decide +kernel
theorem dX11_count_166 : decode cX11_count 166 = .ok (.ireturn, 1) := by decide +kernel
theorem dX11_noPeace_0 : decode cX11_noPeace 0 = .ok (.aload_n 0, 1) := by decide +kernel
theorem dX11_noPeace_1 : decode cX11_noPeace 1 = .ok (.getfield 35, 3) := by decide +kernel
theorem dX11_noPeace_4 : decode cX11_noPeace 4 = .ok (.getfield 269, 3) := by decide +kernel
theorem dX11_noPeace_7 : decode cX11_noPeace 7 = .ok (.ifCond .ne 7, 3) := by decide +kernel
theorem dX11_noPeace_10 : decode cX11_noPeace 10 = .ok (.iconst 1, 1) := by decide +kernel
theorem dX11_noPeace_11 : decode cX11_noPeace 11 = .ok (.goto 4, 3) := by decide +kernel
theorem dX11_noPeace_14 : decode cX11_noPeace 14 = .ok (.iconst 0, 1) := by decide +kernel
theorem dX11_noPeace_15 : decode cX11_noPeace 15 = .ok (.ireturn, 1) := by decide +kernel
theorem dX11_isNoRise_0 : decode cX11_isNoRise 0 = .ok (.iload_n 0, 1) := by decide +kernel
theorem dX11_isNoRise_1 : decode cX11_isNoRise 1 = .ok (.bipush (-9), 2) := by decide +kernel
theorem dX11_isNoRise_3 : decode cX11_isNoRise 3 = .ok (.if_icmp .lt 9, 3) := by decide +kernel
theorem dX11_isNoRise_6 : decode cX11_isNoRise 6 = .ok (.iload_n 0, 1) := by decide +kernel
theorem dX11_isNoRise_7 : decode cX11_isNoRise 7 = .ok (.bipush 9, 2) := by decide +kernel
theorem dX11_isNoRise_9 : decode cX11_isNoRise 9 = .ok (.if_icmp .le 7, 3) := by decide +kernel
theorem dX11_isNoRise_12 : decode cX11_isNoRise 12 = .ok (.iconst 1, 1) := by decide +kernel
theorem dX11_isNoRise_13 : decode cX11_isNoRise 13 = .ok (.goto 4, 3) := by decide +kernel
theorem dX11_isNoRise_16 : decode cX11_isNoRise 16 = .ok (.iconst 0, 1) := by decide +kernel
theorem dX11_isNoRise_17 : decode cX11_isNoRise 17 = .ok (.ireturn, 1) := by decide +kernel
theorem dX11_refuse_0 : decode cX11_refuse 0 = .ok (.aload_n 0, 1) := by decide +kernel
theorem dX11_refuse_1 : decode cX11_refuse 1 = .ok (.getfield 101, 3) := by decide +kernel
theorem dX11_refuse_4 : decode cX11_refuse 4 = .ok (.iload_n 1, 1) := by decide +kernel
theorem dX11_refuse_5 : decode cX11_refuse 5 = .ok (.dup2, 1) := by decide +kernel
theorem dX11_refuse_6 : decode cX11_refuse 6 = .ok (.iaload, 1) := by decide +kernel
theorem dX11_refuse_7 : decode cX11_refuse 7 = .ok (.iconst 1, 1) := by decide +kernel
theorem dX11_refuse_8 : decode cX11_refuse 8 = .ok (.iadd, 1) := by decide +kernel
theorem dX11_refuse_9 : decode cX11_refuse 9 = .ok (.iastore, 1) := by decide +kernel
theorem dX11_refuse_10 : decode cX11_refuse 10 = .ok (.iconst (-1), 1) := by decide +kernel
theorem dX11_refuse_11 : decode cX11_refuse 11 = .ok (.ireturn, 1) := by decide +kernel
set_option maxRecDepth 20000 in
theorem ggX11_takePeace_X5_copyFrom : GoodIn wsX11_takePeace wsX5_copyFrom := goodIn_r _ [16, 17, 18, 19, 20, 21, 22, 23, 24, 25, 26, 27, 28, 29, 30, 80, 81, 82, 83, 84, 85, 86, 87, 88, 89] rfl rfl
set_option maxRecDepth 20000 in
theorem gX11_takePeace_X5_copyFrom : GoodIn wsX11_takePeace (wsV RX11 395 RX5 yX5_copyFrom wsX5_copyFrom) := goodIn_app (goodIn_r _ [12, 13, 14, 15] rfl rfl) ggX11_takePeace_X5_copyFrom
set_option maxRecDepth 20000 in
theorem ggX11_takePeace_X9_begin : GoodIn wsX11_takePeace wsX9_begin := goodIn_r _ [35, 36, 37, 38, 39, 40, 41, 90, 91, 92, 80, 81, 82, 83, 84, 85, 86, 87, 88, 89] rfl rfl
set_option maxRecDepth 20000 in
theorem gX11_takePeace_X9_begin : GoodIn wsX11_takePeace (wsV RX11 397 RX9 yX9_begin wsX9_begin) := goodIn_app (goodIn_r _ [31, 32, 33, 34] rfl rfl) ggX11_takePeace_X9_begin
set_option maxRecDepth 20000 in
theorem ggX11_takePeace_X0_forget : GoodIn wsX11_takePeace wsX0_forget := goodIn_r _ [46, 47, 93, 94, 95] rfl rfl
set_option maxRecDepth 20000 in
theorem gX11_takePeace_X0_forget : GoodIn wsX11_takePeace (wsV RX11 379 RX0 yX0_forget wsX0_forget) := goodIn_app (goodIn_r _ [42, 43, 44, 45] rfl rfl) ggX11_takePeace_X0_forget
theorem dX11_takePeace_0 : decode cX11_takePeace 0 = .ok (.aload_n 0, 1) := by decide +kernel
theorem dX11_takePeace_1 : decode cX11_takePeace 1 = .ok (.getfield 10, 3) := by decide +kernel
theorem dX11_takePeace_4 : decode cX11_takePeace 4 = .ok (.iconst 0, 1) := by decide +kernel
theorem dX11_takePeace_5 : decode cX11_takePeace 5 = .ok (.putfield 121, 3) := by decide +kernel
theorem dX11_takePeace_8 : decode cX11_takePeace 8 = .ok (.aload_n 0, 1) := by decide +kernel
theorem dX11_takePeace_9 : decode cX11_takePeace 9 = .ok (.getfield 35, 3) := by decide +kernel
theorem dX11_takePeace_12 : decode cX11_takePeace 12 = .ok (.aload_n 0, 1) := by decide +kernel
theorem dX11_takePeace_13 : decode cX11_takePeace 13 = .ok (.getfield 21, 3) := by decide +kernel
theorem dX11_takePeace_16 : decode cX11_takePeace 16 = .ok (.getfield 393, 3) := by decide +kernel
theorem dX11_takePeace_19 : decode cX11_takePeace 19 = .ok (.invokevirtual 395, 3) := by decide +kernel
theorem dX11_takePeace_22 : decode cX11_takePeace 22 = .ok (.aload_n 0, 1) := by decide +kernel
theorem dX11_takePeace_23 : decode cX11_takePeace 23 = .ok (.getfield 51, 3) := by decide +kernel
theorem dX11_takePeace_26 : decode cX11_takePeace 26 = .ok (.invokevirtual 397, 3) := by decide +kernel
theorem dX11_takePeace_29 : decode cX11_takePeace 29 = .ok (.aload_n 0, 1) := by decide +kernel
theorem dX11_takePeace_30 : decode cX11_takePeace 30 = .ok (.getfield 68, 3) := by decide +kernel
theorem dX11_takePeace_33 : decode cX11_takePeace 33 = .ok (.invokevirtual 379, 3) := by decide +kernel
theorem dX11_takePeace_36 : decode cX11_takePeace 36 = .ok (.aload_n 0, 1) := by decide +kernel
theorem dX11_takePeace_37 : decode cX11_takePeace 37 = .ok (.getfield 81, 3) := by decide +kernel
theorem dX11_takePeace_40 : decode cX11_takePeace 40 = .ok (.iconst 0, 1) := by decide +kernel
theorem dX11_takePeace_41 : decode cX11_takePeace 41 = .ok (.putfield 309, 3) := by decide +kernel
theorem dX11_takePeace_44 : decode cX11_takePeace 44 = .ok (.aload_n 0, 1) := by decide +kernel
theorem dX11_takePeace_45 : decode cX11_takePeace 45 = .ok (.iconst 0, 1) := by decide +kernel
theorem dX11_takePeace_46 : decode cX11_takePeace 46 = .ok (.putfield 105, 3) := by decide +kernel
theorem dX11_takePeace_49 : decode cX11_takePeace 49 = .ok (.aload_n 0, 1) := by decide +kernel
theorem dX11_takePeace_50 : decode cX11_takePeace 50 = .ok (.getfield 35, 3) := by decide +kernel
theorem dX11_takePeace_53 : decode cX11_takePeace 53 = .ok (.getfield 269, 3) := by decide +kernel
theorem dX11_takePeace_56 : decode cX11_takePeace 56 = .ok (.ireturn, 1) := by decide +kernel
set_option maxRecDepth 20000 in
theorem ggX11_takeLaw_X2_add : GoodIn wsX11_takeLaw wsX2_add := goodIn_r _ [12, 13, 14, 15, 16, 17, 18, 19, 20, 21, 22, 11, 23, 48, 49, 50, 51, 52, 53] rfl rfl
set_option maxRecDepth 20000 in
theorem gX11_takeLaw_X2_add : GoodIn wsX11_takeLaw (wsV RX11 404 RX2 yX2_add wsX2_add) := goodIn_app (goodIn_r _ [8, 9, 10, 11] rfl rfl) ggX11_takeLaw_X2_add
theorem dX11_takeLaw_0 : decode cX11_takeLaw 0 = .ok (.aload_n 0, 1) := by decide +kernel
theorem dX11_takeLaw_1 : decode cX11_takeLaw 1 = .ok (.getfield 10, 3) := by decide +kernel
theorem dX11_takeLaw_4 : decode cX11_takeLaw 4 = .ok (.iconst 0, 1) := by decide +kernel
theorem dX11_takeLaw_5 : decode cX11_takeLaw 5 = .ok (.putfield 121, 3) := by decide +kernel
theorem dX11_takeLaw_8 : decode cX11_takeLaw 8 = .ok (.aload_n 0, 1) := by decide +kernel
theorem dX11_takeLaw_9 : decode cX11_takeLaw 9 = .ok (.getfield 42, 3) := by decide +kernel
theorem dX11_takeLaw_12 : decode cX11_takeLaw 12 = .ok (.aload_n 0, 1) := by decide +kernel
theorem dX11_takeLaw_13 : decode cX11_takeLaw 13 = .ok (.getfield 28, 3) := by decide +kernel
theorem dX11_takeLaw_16 : decode cX11_takeLaw 16 = .ok (.getfield 400, 3) := by decide +kernel
theorem dX11_takeLaw_19 : decode cX11_takeLaw 19 = .ok (.aload_n 0, 1) := by decide +kernel
theorem dX11_takeLaw_20 : decode cX11_takeLaw 20 = .ok (.getfield 28, 3) := by decide +kernel
theorem dX11_takeLaw_23 : decode cX11_takeLaw 23 = .ok (.getfield 403, 3) := by decide +kernel
theorem dX11_takeLaw_26 : decode cX11_takeLaw 26 = .ok (.invokevirtual 404, 3) := by decide +kernel
theorem dX11_takeLaw_29 : decode cX11_takeLaw 29 = .ok (.aload_n 0, 1) := by decide +kernel
theorem dX11_takeLaw_30 : decode cX11_takeLaw 30 = .ok (.getfield 42, 3) := by decide +kernel
theorem dX11_takeLaw_33 : decode cX11_takeLaw 33 = .ok (.getfield 204, 3) := by decide +kernel
theorem dX11_takeLaw_36 : decode cX11_takeLaw 36 = .ok (.iconst 1, 1) := by decide +kernel
theorem dX11_takeLaw_37 : decode cX11_takeLaw 37 = .ok (.isub, 1) := by decide +kernel
theorem dX11_takeLaw_38 : decode cX11_takeLaw 38 = .ok (.ireturn, 1) := by decide +kernel
set_option maxRecDepth 20000 in
theorem ggX11_passDay_X9_cool : GoodIn wsX11_passDay wsX9_cool := goodIn_r _ [7, 8, 9, 10, 11, 12, 13, 14, 15, 16, 6, 17, 73, 74, 75, 76, 77, 78, 79, 80, 81, 82, 83, 84, 85] rfl rfl
set_option maxRecDepth 20000 in
theorem gX11_passDay_X9_cool : GoodIn wsX11_passDay (wsV RX11 295 RX9 yX9_cool wsX9_cool) := goodIn_app (goodIn_r _ [3, 4, 5, 6] rfl rfl) ggX11_passDay_X9_cool
set_option maxRecDepth 20000 in
theorem ggX11_passDay_X9_day : GoodIn wsX11_passDay wsX9_day := goodIn_r _ [21, 10, 73, 74, 75] rfl rfl
set_option maxRecDepth 20000 in
theorem gX11_passDay_X9_day : GoodIn wsX11_passDay (wsV RX11 239 RX9 yX9_day wsX9_day) := goodIn_app (goodIn_r _ [18, 19, 20, 6] rfl rfl) ggX11_passDay_X9_day
set_option maxRecDepth 20000 in
theorem ggX11_passDay_X9_metBits : GoodIn wsX11_passDay wsX9_metBits := goodIn_r _ [25, 8, 9, 26, 27, 28, 6, 29, 10, 73, 74, 75, 76, 77, 78, 79, 80, 81, 82, 83, 84, 85] rfl rfl
set_option maxRecDepth 20000 in
theorem gX11_passDay_X9_metBits : GoodIn wsX11_passDay (wsV RX11 346 RX9 yX9_metBits wsX9_metBits) := goodIn_app (goodIn_r _ [22, 23, 24, 6] rfl rfl) ggX11_passDay_X9_metBits
set_option maxRecDepth 20000 in
theorem ggX11_passDay_J6_bitCount_0f7a4 : GoodIn wsX11_passDay wsJ6_bitCount_0f7a4 := goodIn_r _ [33, 34, 35, 36] rfl rfl
set_option maxRecDepth 20000 in
theorem gX11_passDay_J6_bitCount_0f7a4 : GoodIn wsX11_passDay (va_wsS RX11 388 yJ6_bitCount_0f7a4 wsJ6_bitCount_0f7a4) := goodIn_app (goodIn_r _ [30, 31, 32] rfl rfl) ggX11_passDay_J6_bitCount_0f7a4
set_option maxRecDepth 20000 in
theorem ggX11_passDay_X9_signedToday : GoodIn wsX11_passDay wsX9_signedToday := goodIn_r _ [40, 10, 73, 74, 75] rfl rfl
set_option maxRecDepth 20000 in
theorem gX11_passDay_X9_signedToday : GoodIn wsX11_passDay (wsV RX11 407 RX9 yX9_signedToday wsX9_signedToday) := goodIn_app (goodIn_r _ [37, 38, 39, 6] rfl rfl) ggX11_passDay_X9_signedToday
set_option maxRecDepth 20000 in
theorem ggX11_passDay_X9_warmthOfAll : GoodIn wsX11_passDay wsX9_warmthOfAll := goodIn_r _ [44, 10, 73, 74, 75] rfl rfl
set_option maxRecDepth 20000 in
theorem gX11_passDay_X9_warmthOfAll : GoodIn wsX11_passDay (wsV RX11 385 RX9 yX9_warmthOfAll wsX9_warmthOfAll) := goodIn_app (goodIn_r _ [41, 42, 43, 6] rfl rfl) ggX11_passDay_X9_warmthOfAll
set_option maxRecDepth 20000 in
theorem ggX11_passDay_X3_write : GoodIn wsX11_passDay wsX3_write := goodIn_r _ [49, 50, 86] rfl rfl
set_option maxRecDepth 20000 in
theorem gX11_passDay_X3_write : GoodIn wsX11_passDay (wsV RX11 410 RX3 yX3_write wsX3_write) := goodIn_app (goodIn_r _ [45, 46, 47, 48] rfl rfl) ggX11_passDay_X3_write
set_option maxRecDepth 20000 in
theorem ggX11_passDay_X9_dawn : GoodIn wsX11_passDay wsX9_dawn := goodIn_r _ [54, 10, 73, 74, 75] rfl rfl
set_option maxRecDepth 20000 in
theorem gX11_passDay_X9_dawn : GoodIn wsX11_passDay (wsV RX11 298 RX9 yX9_dawn wsX9_dawn) := goodIn_app (goodIn_r _ [51, 52, 53, 6] rfl rfl) ggX11_passDay_X9_dawn
theorem dX11_passDay_0 : decode cX11_passDay 0 = .ok (.aload_n 0, 1) := by decide +kernel
theorem dX11_passDay_1 : decode cX11_passDay 1 = .ok (.getfield 51, 3) := by decide +kernel
theorem dX11_passDay_4 : decode cX11_passDay 4 = .ok (.invokevirtual 295, 3) := by decide +kernel
theorem dX11_passDay_7 : decode cX11_passDay 7 = .ok (.aload_n 0, 1) := by decide +kernel
theorem dX11_passDay_8 : decode cX11_passDay 8 = .ok (.getfield 61, 3) := by decide +kernel
theorem dX11_passDay_11 : decode cX11_passDay 11 = .ok (.aload_n 0, 1) := by decide +kernel
theorem dX11_passDay_12 : decode cX11_passDay 12 = .ok (.getfield 51, 3) := by decide +kernel
theorem dX11_passDay_15 : decode cX11_passDay 15 = .ok (.invokevirtual 239, 3) := by decide +kernel
theorem dX11_passDay_18 : decode cX11_passDay 18 = .ok (.aload_n 0, 1) := by decide +kernel
theorem dX11_passDay_19 : decode cX11_passDay 19 = .ok (.getfield 51, 3) := by decide +kernel
theorem dX11_passDay_22 : decode cX11_passDay 22 = .ok (.invokevirtual 346, 3) := by decide +kernel
theorem dX11_passDay_25 : decode cX11_passDay 25 = .ok (.invokestatic 388, 3) := by decide +kernel
theorem dX11_passDay_28 : decode cX11_passDay 28 = .ok (.aload_n 0, 1) := by decide +kernel
theorem dX11_passDay_29 : decode cX11_passDay 29 = .ok (.getfield 51, 3) := by decide +kernel
theorem dX11_passDay_32 : decode cX11_passDay 32 = .ok (.invokevirtual 407, 3) := by decide +kernel
theorem dX11_passDay_35 : decode cX11_passDay 35 = .ok (.aload_n 0, 1) := by decide +kernel
theorem dX11_passDay_36 : decode cX11_passDay 36 = .ok (.getfield 51, 3) := by decide +kernel
theorem dX11_passDay_39 : decode cX11_passDay 39 = .ok (.invokevirtual 385, 3) := by decide +kernel
theorem dX11_passDay_42 : decode cX11_passDay 42 = .ok (.invokevirtual 410, 3) := by decide +kernel
theorem dX11_passDay_45 : decode cX11_passDay 45 = .ok (.aload_n 0, 1) := by decide +kernel
theorem dX11_passDay_46 : decode cX11_passDay 46 = .ok (.getfield 51, 3) := by decide +kernel
theorem dX11_passDay_49 : decode cX11_passDay 49 = .ok (.invokevirtual 298, 3) := by decide +kernel
theorem dX11_passDay_52 : decode cX11_passDay 52 = .ok (.return_, 1) := by decide +kernel
theorem dX11_draw_0 : decode cX11_draw 0 = .ok (.aload_n 0, 1) := by decide +kernel
theorem dX11_draw_1 : decode cX11_draw 1 = .ok (.aload_n 0, 1) := by decide +kernel
theorem dX11_draw_2 : decode cX11_draw 2 = .ok (.getfield 113, 3) := by decide +kernel
theorem dX11_draw_5 : decode cX11_draw 5 = .ok (.ldc2_w 414, 3) := by decide +kernel
theorem dX11_draw_8 : decode cX11_draw 8 = .ok (.lmul, 1) := by decide +kernel
theorem dX11_draw_9 : decode cX11_draw 9 = .ok (.ldc2_w 416, 3) := by decide +kernel
theorem dX11_draw_12 : decode cX11_draw 12 = .ok (.ladd, 1) := by decide +kernel
theorem dX11_draw_13 : decode cX11_draw 13 = .ok (.putfield 113, 3) := by decide +kernel
theorem dX11_draw_16 : decode cX11_draw 16 = .ok (.iload_n 1, 1) := by decide +kernel
theorem dX11_draw_17 : decode cX11_draw 17 = .ok (.iconst 1, 1) := by decide +kernel
theorem dX11_draw_18 : decode cX11_draw 18 = .ok (.if_icmp .ge 7, 3) := by decide +kernel
theorem dX11_draw_21 : decode cX11_draw 21 = .ok (.iconst 0, 1) := by decide +kernel
theorem dX11_draw_22 : decode cX11_draw 22 = .ok (.goto 14, 3) := by decide +kernel
theorem dX11_draw_25 : decode cX11_draw 25 = .ok (.aload_n 0, 1) := by decide +kernel
theorem dX11_draw_26 : decode cX11_draw 26 = .ok (.getfield 113, 3) := by decide +kernel
theorem dX11_draw_29 : decode cX11_draw 29 = .ok (.bipush 33, 2) := by decide +kernel
theorem dX11_draw_31 : decode cX11_draw 31 = .ok (.lushr, 1) := by decide +kernel
theorem dX11_draw_32 : decode cX11_draw 32 = .ok (.iload_n 1, 1) := by decide +kernel
theorem dX11_draw_33 : decode cX11_draw 33 = .ok (.i2l, 1) := by decide +kernel
theorem dX11_draw_34 : decode cX11_draw 34 = .ok (.lrem, 1) := by decide +kernel
theorem dX11_draw_35 : decode cX11_draw 35 = .ok (.l2i, 1) := by decide +kernel
theorem dX11_draw_36 : decode cX11_draw 36 = .ok (.ireturn, 1) := by decide +kernel
set_option maxRecDepth 20000 in
theorem ggX11_drawMeeting_X11_draw : GoodIn wsX11_drawMeeting wsX11_draw := goodIn_r _ [8, 9, 10, 11, 118, 119, 120, 121, 122, 123, 124, 125, 126, 127, 128, 129, 130, 131, 132, 133, 134, 135] rfl rfl
set_option maxRecDepth 20000 in
theorem gX11_drawMeeting_X11_draw : GoodIn wsX11_drawMeeting (wsV RX11 248 RX11 yX11_draw wsX11_draw) := goodIn_app (goodIn_r _ [4, 5, 6, 7] rfl rfl) ggX11_drawMeeting_X11_draw
set_option maxRecDepth 20000 in
theorem ggX11_drawMeeting_X5_unlike : GoodIn wsX11_drawMeeting wsX5_unlike := goodIn_r _ [16, 17, 18, 19, 20, 15, 21, 22, 136, 137, 138, 139, 140, 141, 142, 143, 144, 145] rfl rfl
set_option maxRecDepth 20000 in
theorem gX11_drawMeeting_X5_unlike : GoodIn wsX11_drawMeeting (wsV RX11 196 RX5 yX5_unlike wsX5_unlike) := goodIn_app (goodIn_r _ [12, 13, 14, 15] rfl rfl) ggX11_drawMeeting_X5_unlike
set_option maxRecDepth 20000 in
theorem ggX11_drawMeeting_X9_hasMet : GoodIn wsX11_drawMeeting wsX9_hasMet := goodIn_r _ [27, 28, 146, 147, 148] rfl rfl
set_option maxRecDepth 20000 in
theorem gX11_drawMeeting_X9_hasMet : GoodIn wsX11_drawMeeting (wsV RX11 178 RX9 yX9_hasMet wsX9_hasMet) := goodIn_app (goodIn_r _ [23, 24, 25, 26] rfl rfl) ggX11_drawMeeting_X9_hasMet
set_option maxRecDepth 20000 in
theorem ggX11_drawMeeting_X9_meet : GoodIn wsX11_drawMeeting wsX9_meet := goodIn_r _ [32, 28, 33, 34, 26, 35, 36, 37, 38, 39, 40, 41, 42, 43, 44, 45, 46, 47, 48, 49, 50, 51, 52, 53, 54, 55, 56, 57, 58, 59, 60, 61, 62, 63, 64, 65, 66, 67, 68, 69, 70, 71, 15, 72, 73, 74, 75, 76, 77, 78, 79, 80, 81, 82, 83, 84, 85, 86, 87, 88, 89, 90, 91, 92, 93, 94, 95, 96, 97, 98, 99, 100, 101, 102, 103, 104, 105, 106, 107, 108, 109, 110, 111, 112, 113, 114, 115, 116, 117, 146, 147, 148, 136, 137, 138, 139, 140, 141, 142, 143, 144, 145, 149, 150, 151, 152, 153, 154] rfl rfl
set_option maxRecDepth 20000 in
theorem gX11_drawMeeting_X9_meet : GoodIn wsX11_drawMeeting (wsV RX11 220 RX9 yX9_meet wsX9_meet) := goodIn_app (goodIn_r _ [29, 30, 31, 26] rfl rfl) ggX11_drawMeeting_X9_meet
theorem dX11_drawMeeting_0 : decode cX11_drawMeeting 0 = .ok (.aload_n 0, 1) := by decide +kernel
theorem dX11_drawMeeting_1 : decode cX11_drawMeeting 1 = .ok (.aload_n 0, 1) := by decide +kernel
theorem dX11_drawMeeting_2 : decode cX11_drawMeeting 2 = .ok (.getfield 35, 3) := by decide +kernel
theorem dX11_drawMeeting_5 : decode cX11_drawMeeting 5 = .ok (.getfield 269, 3) := by decide +kernel
theorem dX11_drawMeeting_8 : decode cX11_drawMeeting 8 = .ok (.invokevirtual 248, 3) := by decide +kernel
theorem dX11_drawMeeting_11 : decode cX11_drawMeeting 11 = .ok (.istore_n 1, 1) := by decide +kernel
theorem dX11_drawMeeting_12 : decode cX11_drawMeeting 12 = .ok (.aload_n 0, 1) := by decide +kernel
theorem dX11_drawMeeting_13 : decode cX11_drawMeeting 13 = .ok (.aload_n 0, 1) := by decide +kernel
theorem dX11_drawMeeting_14 : decode cX11_drawMeeting 14 = .ok (.getfield 35, 3) := by decide +kernel
theorem dX11_drawMeeting_17 : decode cX11_drawMeeting 17 = .ok (.getfield 269, 3) := by decide +kernel
theorem dX11_drawMeeting_20 : decode cX11_drawMeeting 20 = .ok (.invokevirtual 248, 3) := by decide +kernel
theorem dX11_drawMeeting_23 : decode cX11_drawMeeting 23 = .ok (.istore_n 2, 1) := by decide +kernel
theorem dX11_drawMeeting_24 : decode cX11_drawMeeting 24 = .ok (.aload_n 0, 1) := by decide +kernel
theorem dX11_drawMeeting_25 : decode cX11_drawMeeting 25 = .ok (.getfield 35, 3) := by decide +kernel
theorem dX11_drawMeeting_28 : decode cX11_drawMeeting 28 = .ok (.iload_n 1, 1) := by decide +kernel
theorem dX11_drawMeeting_29 : decode cX11_drawMeeting 29 = .ok (.iload_n 2, 1) := by decide +kernel
theorem dX11_drawMeeting_30 : decode cX11_drawMeeting 30 = .ok (.invokevirtual 196, 3) := by decide +kernel
theorem dX11_drawMeeting_33 : decode cX11_drawMeeting 33 = .ok (.ifCond .eq 34, 3) := by decide +kernel
theorem dX11_drawMeeting_36 : decode cX11_drawMeeting 36 = .ok (.aload_n 0, 1) := by decide +kernel
theorem dX11_drawMeeting_37 : decode cX11_drawMeeting 37 = .ok (.getfield 51, 3) := by decide +kernel
theorem dX11_drawMeeting_40 : decode cX11_drawMeeting 40 = .ok (.iload_n 1, 1) := by decide +kernel
theorem dX11_drawMeeting_41 : decode cX11_drawMeeting 41 = .ok (.invokevirtual 178, 3) := by decide +kernel
theorem dX11_drawMeeting_44 : decode cX11_drawMeeting 44 = .ok (.ifCond .ne 23, 3) := by decide +kernel
theorem dX11_drawMeeting_47 : decode cX11_drawMeeting 47 = .ok (.aload_n 0, 1) := by decide +kernel
theorem dX11_drawMeeting_48 : decode cX11_drawMeeting 48 = .ok (.getfield 51, 3) := by decide +kernel
theorem dX11_drawMeeting_51 : decode cX11_drawMeeting 51 = .ok (.iload_n 2, 1) := by decide +kernel
theorem dX11_drawMeeting_52 : decode cX11_drawMeeting 52 = .ok (.invokevirtual 178, 3) := by decide +kernel
theorem dX11_drawMeeting_55 : decode cX11_drawMeeting 55 = .ok (.ifCond .ne 12, 3) := by decide +kernel
theorem dX11_drawMeeting_58 : decode cX11_drawMeeting 58 = .ok (.aload_n 0, 1) := by decide +kernel
theorem dX11_drawMeeting_59 : decode cX11_drawMeeting 59 = .ok (.getfield 51, 3) := by decide +kernel
theorem dX11_drawMeeting_62 : decode cX11_drawMeeting 62 = .ok (.iload_n 1, 1) := by decide +kernel
theorem dX11_drawMeeting_63 : decode cX11_drawMeeting 63 = .ok (.iload_n 2, 1) := by decide +kernel
theorem dX11_drawMeeting_64 : decode cX11_drawMeeting 64 = .ok (.invokevirtual 220, 3) := by decide +kernel
theorem dX11_drawMeeting_67 : decode cX11_drawMeeting 67 = .ok (.return_, 1) := by decide +kernel
set_option maxRecDepth 20000 in
theorem ggX11_daysUntil_X9_warmthOf : GoodIn wsX11_daysUntil wsX9_warmthOf := goodIn_r _ [6, 7, 8, 9, 5, 10, 94, 95, 96] rfl rfl
set_option maxRecDepth 20000 in
theorem gX11_daysUntil_X9_warmthOf : GoodIn wsX11_daysUntil (wsV RX11 200 RX9 yX9_warmthOf wsX9_warmthOf) := goodIn_app (goodIn_r _ [2, 3, 4, 5] rfl rfl) ggX11_daysUntil_X9_warmthOf
set_option maxRecDepth 20000 in
theorem ggX11_daysUntil_X9_warmer : GoodIn wsX11_daysUntil wsX9_warmer := goodIn_r _ [14, 15, 16, 17, 18, 19, 20, 21, 22, 23, 24, 5, 25, 7, 26, 27, 28, 29, 30, 31, 32, 33, 34, 35, 36, 37, 38, 39, 40, 41, 42, 43, 44, 45, 46, 47, 48, 49, 50, 51, 52, 53, 54, 55, 56, 57, 58, 59, 60, 61, 62, 63, 64, 65, 66, 67, 68, 69, 70, 71, 72, 73, 74, 75, 94, 95, 96, 97, 98, 99, 100, 101, 102, 103, 104, 105, 106, 107, 108, 109, 110, 111, 112] rfl rfl
set_option maxRecDepth 20000 in
theorem gX11_daysUntil_X9_warmer : GoodIn wsX11_daysUntil (wsV RX11 265 RX9 yX9_warmer wsX9_warmer) := goodIn_app (goodIn_r _ [11, 12, 13, 5] rfl rfl) ggX11_daysUntil_X9_warmer
theorem dX11_daysUntil_0 : decode cX11_daysUntil 0 = .ok (.aload_n 0, 1) := by decide +kernel
theorem dX11_daysUntil_1 : decode cX11_daysUntil 1 = .ok (.getfield 51, 3) := by decide +kernel
theorem dX11_daysUntil_4 : decode cX11_daysUntil 4 = .ok (.iload_n 1, 1) := by decide +kernel
theorem dX11_daysUntil_5 : decode cX11_daysUntil 5 = .ok (.iload_n 2, 1) := by decide +kernel
theorem dX11_daysUntil_6 : decode cX11_daysUntil 6 = .ok (.invokevirtual 200, 3) := by decide +kernel
theorem dX11_daysUntil_9 : decode cX11_daysUntil 9 = .ok (.istore 4, 2) := by decide +kernel
theorem dX11_daysUntil_11 : decode cX11_daysUntil 11 = .ok (.iconst 0, 1) := by decide +kernel
theorem dX11_daysUntil_12 : decode cX11_daysUntil 12 = .ok (.istore 5, 2) := by decide +kernel
theorem dX11_daysUntil_14 : decode cX11_daysUntil 14 = .ok (.iload 5, 2) := by decide +kernel
theorem dX11_daysUntil_16 : decode cX11_daysUntil 16 = .ok (.bipush 60, 2) := by decide +kernel
theorem dX11_daysUntil_18 : decode cX11_daysUntil 18 = .ok (.if_icmp .gt 33, 3) := by decide +kernel
theorem dX11_daysUntil_21 : decode cX11_daysUntil 21 = .ok (.iload 4, 2) := by decide +kernel
theorem dX11_daysUntil_23 : decode cX11_daysUntil 23 = .ok (.iload_n 3, 1) := by decide +kernel
theorem dX11_daysUntil_24 : decode cX11_daysUntil 24 = .ok (.if_icmp .lt 6, 3) := by decide +kernel
theorem dX11_daysUntil_27 : decode cX11_daysUntil 27 = .ok (.iload 5, 2) := by decide +kernel
theorem dX11_daysUntil_29 : decode cX11_daysUntil 29 = .ok (.ireturn, 1) := by decide +kernel
theorem dX11_daysUntil_30 : decode cX11_daysUntil 30 = .ok (.aload_n 0, 1) := by decide +kernel
theorem dX11_daysUntil_31 : decode cX11_daysUntil 31 = .ok (.getfield 51, 3) := by decide +kernel
theorem dX11_daysUntil_34 : decode cX11_daysUntil 34 = .ok (.iload_n 1, 1) := by decide +kernel
theorem dX11_daysUntil_35 : decode cX11_daysUntil 35 = .ok (.iload_n 2, 1) := by decide +kernel
theorem dX11_daysUntil_36 : decode cX11_daysUntil 36 = .ok (.iload 4, 2) := by decide +kernel
theorem dX11_daysUntil_38 : decode cX11_daysUntil 38 = .ok (.iload 5, 2) := by decide +kernel
theorem dX11_daysUntil_40 : decode cX11_daysUntil 40 = .ok (.invokevirtual 265, 3) := by decide +kernel
theorem dX11_daysUntil_43 : decode cX11_daysUntil 43 = .ok (.istore 4, 2) := by decide +kernel
theorem dX11_daysUntil_45 : decode cX11_daysUntil 45 = .ok (.iinc 5 1, 3) := by decide +kernel
theorem dX11_daysUntil_48 : decode cX11_daysUntil 48 = .ok (.goto (-34), 3) := by decide +kernel
theorem dX11_daysUntil_51 : decode cX11_daysUntil 51 = .ok (.bipush 61, 2) := by decide +kernel
theorem dX11_daysUntil_53 : decode cX11_daysUntil 53 = .ok (.ireturn, 1) := by decide +kernel
set_option maxRecDepth 20000 in
theorem ggX11_leastGain_X5_unlike : GoodIn wsX11_leastGain wsX5_unlike := goodIn_r _ [12, 13, 14, 15, 16, 11, 17, 18, 110, 111, 112, 113, 114, 115, 116, 117, 118, 119] rfl rfl
set_option maxRecDepth 20000 in
theorem gX11_leastGain_X5_unlike : GoodIn wsX11_leastGain (wsV RX11 196 RX5 yX5_unlike wsX5_unlike) := goodIn_app (goodIn_r _ [8, 9, 10, 11] rfl rfl) ggX11_leastGain_X5_unlike
set_option maxRecDepth 20000 in
theorem ggX11_leastGain_X9_gains : GoodIn wsX11_leastGain wsX9_gains := goodIn_r _ [23, 24, 25, 15, 16, 11, 17, 18, 26, 27, 28, 22, 29, 30, 31, 32, 33, 34, 35, 36, 37, 38, 39, 40, 41, 42, 43, 44, 45, 46, 47, 48, 49, 50, 51, 52, 53, 54, 55, 56, 57, 58, 59, 60, 61, 62, 63, 64, 65, 66, 67, 68, 69, 70, 71, 72, 73, 5, 6, 7, 74, 75, 76, 77, 78, 79, 80, 81, 82, 83, 84, 85, 86, 87, 88, 89, 90, 91, 120, 121, 122, 110, 111, 112, 113, 114, 115, 116, 117, 118, 119, 123, 124, 125, 126, 127, 128] rfl rfl
set_option maxRecDepth 20000 in
theorem gX11_leastGain_X9_gains : GoodIn wsX11_leastGain (wsV RX11 322 RX9 yX9_gains wsX9_gains) := goodIn_app (goodIn_r _ [19, 20, 21, 22] rfl rfl) ggX11_leastGain_X9_gains
theorem dX11_leastGain_0 : decode cX11_leastGain 0 = .ok (.bipush 9, 2) := by decide +kernel
theorem dX11_leastGain_2 : decode cX11_leastGain 2 = .ok (.istore_n 2, 1) := by decide +kernel
theorem dX11_leastGain_3 : decode cX11_leastGain 3 = .ok (.iconst 0, 1) := by decide +kernel
theorem dX11_leastGain_4 : decode cX11_leastGain 4 = .ok (.istore_n 3, 1) := by decide +kernel
theorem dX11_leastGain_5 : decode cX11_leastGain 5 = .ok (.iload_n 3, 1) := by decide +kernel
theorem dX11_leastGain_6 : decode cX11_leastGain 6 = .ok (.aload_n 0, 1) := by decide +kernel
theorem dX11_leastGain_7 : decode cX11_leastGain 7 = .ok (.getfield 35, 3) := by decide +kernel
theorem dX11_leastGain_10 : decode cX11_leastGain 10 = .ok (.getfield 269, 3) := by decide +kernel
theorem dX11_leastGain_13 : decode cX11_leastGain 13 = .ok (.if_icmp .ge 35, 3) := by decide +kernel
theorem dX11_leastGain_16 : decode cX11_leastGain 16 = .ok (.aload_n 0, 1) := by decide +kernel
theorem dX11_leastGain_17 : decode cX11_leastGain 17 = .ok (.getfield 35, 3) := by decide +kernel
theorem dX11_leastGain_20 : decode cX11_leastGain 20 = .ok (.iload_n 1, 1) := by decide +kernel
theorem dX11_leastGain_21 : decode cX11_leastGain 21 = .ok (.iload_n 3, 1) := by decide +kernel
theorem dX11_leastGain_22 : decode cX11_leastGain 22 = .ok (.invokevirtual 196, 3) := by decide +kernel
theorem dX11_leastGain_25 : decode cX11_leastGain 25 = .ok (.ifCond .eq 17, 3) := by decide +kernel
theorem dX11_leastGain_28 : decode cX11_leastGain 28 = .ok (.iload_n 2, 1) := by decide +kernel
theorem dX11_leastGain_29 : decode cX11_leastGain 29 = .ok (.aload_n 0, 1) := by decide +kernel
theorem dX11_leastGain_30 : decode cX11_leastGain 30 = .ok (.getfield 51, 3) := by decide +kernel
theorem dX11_leastGain_33 : decode cX11_leastGain 33 = .ok (.iload_n 1, 1) := by decide +kernel
theorem dX11_leastGain_34 : decode cX11_leastGain 34 = .ok (.iload_n 3, 1) := by decide +kernel
theorem dX11_leastGain_35 : decode cX11_leastGain 35 = .ok (.invokevirtual 322, 3) := by decide +kernel
theorem dX11_leastGain_38 : decode cX11_leastGain 38 = .ok (.invokestatic 418, 3) := by decide +kernel
theorem dX11_leastGain_41 : decode cX11_leastGain 41 = .ok (.istore_n 2, 1) := by decide +kernel
theorem dX11_leastGain_42 : decode cX11_leastGain 42 = .ok (.iinc 3 1, 3) := by decide +kernel
theorem dX11_leastGain_45 : decode cX11_leastGain 45 = .ok (.goto (-40), 3) := by decide +kernel
theorem dX11_leastGain_48 : decode cX11_leastGain 48 = .ok (.iload_n 2, 1) := by decide +kernel
theorem dX11_leastGain_49 : decode cX11_leastGain 49 = .ok (.ireturn, 1) := by decide +kernel
set_option maxRecDepth 20000 in
theorem ggX11_isRest_X9_gains : GoodIn wsX11_isRest wsX9_gains := goodIn_r _ [9, 10, 11, 12, 13, 14, 15, 16, 17, 18, 19, 8, 20, 21, 22, 23, 24, 25, 26, 27, 28, 29, 30, 31, 32, 33, 34, 35, 36, 37, 38, 39, 40, 41, 42, 43, 44, 45, 46, 47, 48, 49, 50, 51, 52, 53, 54, 55, 56, 57, 58, 59, 60, 61, 62, 63, 64, 65, 66, 67, 68, 69, 70, 71, 72, 73, 74, 75, 76, 77, 78, 79, 80, 81, 82, 83, 84, 85, 114, 115, 116, 104, 105, 106, 107, 108, 109, 110, 111, 112, 113, 117, 118, 119, 120, 121, 122] rfl rfl
set_option maxRecDepth 20000 in
theorem gX11_isRest_X9_gains : GoodIn wsX11_isRest (wsV RX11 322 RX9 yX9_gains wsX9_gains) := goodIn_app (goodIn_r _ [5, 6, 7, 8] rfl rfl) ggX11_isRest_X9_gains
theorem dX11_isRest_0 : decode cX11_isRest 0 = .ok (.aload_n 0, 1) := by decide +kernel
theorem dX11_isRest_1 : decode cX11_isRest 1 = .ok (.getfield 51, 3) := by decide +kernel
theorem dX11_isRest_4 : decode cX11_isRest 4 = .ok (.iload_n 1, 1) := by decide +kernel
theorem dX11_isRest_5 : decode cX11_isRest 5 = .ok (.iload_n 2, 1) := by decide +kernel
theorem dX11_isRest_6 : decode cX11_isRest 6 = .ok (.invokevirtual 322, 3) := by decide +kernel
theorem dX11_isRest_9 : decode cX11_isRest 9 = .ok (.istore_n 3, 1) := by decide +kernel
theorem dX11_isRest_10 : decode cX11_isRest 10 = .ok (.aload_n 0, 1) := by decide +kernel
theorem dX11_isRest_11 : decode cX11_isRest 11 = .ok (.getfield 51, 3) := by decide +kernel
theorem dX11_isRest_14 : decode cX11_isRest 14 = .ok (.iload_n 2, 1) := by decide +kernel
theorem dX11_isRest_15 : decode cX11_isRest 15 = .ok (.iload_n 1, 1) := by decide +kernel
theorem dX11_isRest_16 : decode cX11_isRest 16 = .ok (.invokevirtual 322, 3) := by decide +kernel
theorem dX11_isRest_19 : decode cX11_isRest 19 = .ok (.istore 4, 2) := by decide +kernel
theorem dX11_isRest_21 : decode cX11_isRest 21 = .ok (.iconst 0, 1) := by decide +kernel
theorem dX11_isRest_22 : decode cX11_isRest 22 = .ok (.istore 5, 2) := by decide +kernel
theorem dX11_isRest_24 : decode cX11_isRest 24 = .ok (.iload 5, 2) := by decide +kernel
theorem dX11_isRest_26 : decode cX11_isRest 26 = .ok (.aload_n 0, 1) := by decide +kernel
theorem dX11_isRest_27 : decode cX11_isRest 27 = .ok (.getfield 35, 3) := by decide +kernel
theorem dX11_isRest_30 : decode cX11_isRest 30 = .ok (.getfield 269, 3) := by decide +kernel
theorem dX11_isRest_33 : decode cX11_isRest 33 = .ok (.if_icmp .ge 73, 3) := by decide +kernel
theorem dX11_isRest_36 : decode cX11_isRest 36 = .ok (.aload_n 0, 1) := by decide +kernel
theorem dX11_isRest_37 : decode cX11_isRest 37 = .ok (.getfield 35, 3) := by decide +kernel
theorem dX11_isRest_40 : decode cX11_isRest 40 = .ok (.getfield 166, 3) := by decide +kernel
theorem dX11_isRest_43 : decode cX11_isRest 43 = .ok (.iload 5, 2) := by decide +kernel
theorem dX11_isRest_45 : decode cX11_isRest 45 = .ok (.iaload, 1) := by decide +kernel
theorem dX11_isRest_46 : decode cX11_isRest 46 = .ok (.ifCond .ne 25, 3) := by decide +kernel
theorem dX11_isRest_49 : decode cX11_isRest 49 = .ok (.aload_n 0, 1) := by decide +kernel
theorem dX11_isRest_50 : decode cX11_isRest 50 = .ok (.getfield 51, 3) := by decide +kernel
theorem dX11_isRest_53 : decode cX11_isRest 53 = .ok (.iload 5, 2) := by decide +kernel
theorem dX11_isRest_55 : decode cX11_isRest 55 = .ok (.iload_n 2, 1) := by decide +kernel
theorem dX11_isRest_56 : decode cX11_isRest 56 = .ok (.invokevirtual 322, 3) := by decide +kernel
theorem dX11_isRest_59 : decode cX11_isRest 59 = .ok (.iload_n 3, 1) := by decide +kernel
theorem dX11_isRest_60 : decode cX11_isRest 60 = .ok (.if_icmp .le 7, 3) := by decide +kernel
theorem dX11_isRest_63 : decode cX11_isRest 63 = .ok (.iconst 1, 1) := by decide +kernel
theorem dX11_isRest_64 : decode cX11_isRest 64 = .ok (.goto 27, 3) := by decide +kernel
theorem dX11_isRest_67 : decode cX11_isRest 67 = .ok (.iconst 0, 1) := by decide +kernel
theorem dX11_isRest_68 : decode cX11_isRest 68 = .ok (.goto 23, 3) := by decide +kernel
theorem dX11_isRest_71 : decode cX11_isRest 71 = .ok (.aload_n 0, 1) := by decide +kernel
theorem dX11_isRest_72 : decode cX11_isRest 72 = .ok (.getfield 51, 3) := by decide +kernel
theorem dX11_isRest_75 : decode cX11_isRest 75 = .ok (.iload 5, 2) := by decide +kernel
theorem dX11_isRest_77 : decode cX11_isRest 77 = .ok (.iload_n 1, 1) := by decide +kernel
theorem dX11_isRest_78 : decode cX11_isRest 78 = .ok (.invokevirtual 322, 3) := by decide +kernel
theorem dX11_isRest_81 : decode cX11_isRest 81 = .ok (.iload 4, 2) := by decide +kernel
theorem dX11_isRest_83 : decode cX11_isRest 83 = .ok (.if_icmp .le 7, 3) := by decide +kernel
theorem dX11_isRest_86 : decode cX11_isRest 86 = .ok (.iconst 1, 1) := by decide +kernel
theorem dX11_isRest_87 : decode cX11_isRest 87 = .ok (.goto 4, 3) := by decide +kernel
theorem dX11_isRest_90 : decode cX11_isRest 90 = .ok (.iconst 0, 1) := by decide +kernel
theorem dX11_isRest_91 : decode cX11_isRest 91 = .ok (.istore 6, 2) := by decide +kernel
theorem dX11_isRest_93 : decode cX11_isRest 93 = .ok (.iload 6, 2) := by decide +kernel
theorem dX11_isRest_95 : decode cX11_isRest 95 = .ok (.ifCond .eq 5, 3) := by decide +kernel
theorem dX11_isRest_98 : decode cX11_isRest 98 = .ok (.iconst 0, 1) := by decide +kernel
theorem dX11_isRest_99 : decode cX11_isRest 99 = .ok (.ireturn, 1) := by decide +kernel
theorem dX11_isRest_100 : decode cX11_isRest 100 = .ok (.iinc 5 1, 3) := by decide +kernel
theorem dX11_isRest_103 : decode cX11_isRest 103 = .ok (.goto (-79), 3) := by decide +kernel
theorem dX11_isRest_106 : decode cX11_isRest 106 = .ok (.iconst 1, 1) := by decide +kernel
theorem dX11_isRest_107 : decode cX11_isRest 107 = .ok (.ireturn, 1) := by decide +kernel
theorem dX12_in_0 : decode cX12_in 0 = .ok (.iload_n 0, 1) := by decide +kernel
theorem dX12_in_1 : decode cX12_in 1 = .ok (.iload_n 1, 1) := by decide +kernel
theorem dX12_in_2 : decode cX12_in 2 = .ok (.if_icmp .lt 12, 3) := by decide +kernel
theorem dX12_in_5 : decode cX12_in 5 = .ok (.iload_n 0, 1) := by decide +kernel
theorem dX12_in_6 : decode cX12_in 6 = .ok (.iload_n 2, 1) := by decide +kernel
theorem dX12_in_7 : decode cX12_in 7 = .ok (.if_icmp .gt 7, 3) := by decide +kernel
theorem dX12_in_10 : decode cX12_in 10 = .ok (.iconst 1, 1) := by decide +kernel
theorem dX12_in_11 : decode cX12_in 11 = .ok (.goto 4, 3) := by decide +kernel
theorem dX12_in_14 : decode cX12_in 14 = .ok (.iconst 0, 1) := by decide +kernel
theorem dX12_in_15 : decode cX12_in 15 = .ok (.ireturn, 1) := by decide +kernel
theorem dX12_has_0 : decode cX12_has 0 = .ok (.iload_n 0, 1) := by decide +kernel
theorem dX12_has_1 : decode cX12_has 1 = .ok (.iload_n 1, 1) := by decide +kernel
theorem dX12_has_2 : decode cX12_has 2 = .ok (.ishr, 1) := by decide +kernel
theorem dX12_has_3 : decode cX12_has 3 = .ok (.iconst 1, 1) := by decide +kernel
theorem dX12_has_4 : decode cX12_has 4 = .ok (.iand, 1) := by decide +kernel
theorem dX12_has_5 : decode cX12_has 5 = .ok (.iconst 1, 1) := by decide +kernel
theorem dX12_has_6 : decode cX12_has 6 = .ok (.if_icmp .ne 7, 3) := by decide +kernel
theorem dX12_has_9 : decode cX12_has 9 = .ok (.iconst 1, 1) := by decide +kernel
theorem dX12_has_10 : decode cX12_has 10 = .ok (.goto 4, 3) := by decide +kernel
theorem dX12_has_13 : decode cX12_has 13 = .ok (.iconst 0, 1) := by decide +kernel
theorem dX12_has_14 : decode cX12_has 14 = .ok (.ireturn, 1) := by decide +kernel
theorem dX12_init_0 : decode cX12_init 0 = .ok (.aload_n 0, 1) := by decide +kernel
theorem dX12_init_1 : decode cX12_init 1 = .ok (.invokespecial 3, 3) := by decide +kernel
theorem dX12_init_4 : decode cX12_init 4 = .ok (.aload_n 0, 1) := by decide +kernel
theorem dX12_init_5 : decode cX12_init 5 = .ok (.sipush 240, 3) := by decide +kernel
theorem dX12_init_8 : decode cX12_init 8 = .ok (.newarray .int, 2) := by decide +kernel
theorem dX12_init_10 : decode cX12_init 10 = .ok (.putfield 9, 3) := by decide +kernel
theorem dX12_init_13 : decode cX12_init 13 = .ok (.aload_n 0, 1) := by decide +kernel
theorem dX12_init_14 : decode cX12_init 14 = .ok (.sipush 2600, 3) := by decide +kernel
theorem dX12_init_17 : decode cX12_init 17 = .ok (.newarray .int, 2) := by decide +kernel
theorem dX12_init_19 : decode cX12_init 19 = .ok (.putfield 13, 3) := by decide +kernel
theorem dX12_init_22 : decode cX12_init 22 = .ok (.aload_n 0, 1) := by decide +kernel
theorem dX12_init_23 : decode cX12_init 23 = .ok (.sipush 2600, 3) := by decide +kernel
theorem dX12_init_26 : decode cX12_init 26 = .ok (.newarray .int, 2) := by decide +kernel
theorem dX12_init_28 : decode cX12_init 28 = .ok (.putfield 16, 3) := by decide +kernel
theorem dX12_init_31 : decode cX12_init 31 = .ok (.aload_n 0, 1) := by decide +kernel
theorem dX12_init_32 : decode cX12_init 32 = .ok (.iconst 5, 1) := by decide +kernel
theorem dX12_init_33 : decode cX12_init 33 = .ok (.newarray .int, 2) := by decide +kernel
theorem dX12_init_35 : decode cX12_init 35 = .ok (.putfield 19, 3) := by decide +kernel
theorem dX12_init_38 : decode cX12_init 38 = .ok (.aload_n 0, 1) := by decide +kernel
theorem dX12_init_39 : decode cX12_init 39 = .ok (.iconst 5, 1) := by decide +kernel
theorem dX12_init_40 : decode cX12_init 40 = .ok (.newarray .int, 2) := by decide +kernel
theorem dX12_init_42 : decode cX12_init 42 = .ok (.putfield 22, 3) := by decide +kernel
theorem dX12_init_45 : decode cX12_init 45 = .ok (.aload_n 0, 1) := by decide +kernel
theorem dX12_init_46 : decode cX12_init 46 = .ok (.sipush 700, 3) := by decide +kernel
theorem dX12_init_49 : decode cX12_init 49 = .ok (.newarray .int, 2) := by decide +kernel
theorem dX12_init_51 : decode cX12_init 51 = .ok (.putfield 25, 3) := by decide +kernel
theorem dX12_init_54 : decode cX12_init 54 = .ok (.aload_n 0, 1) := by decide +kernel
theorem dX12_init_55 : decode cX12_init 55 = .ok (.sipush 700, 3) := by decide +kernel
theorem dX12_init_58 : decode cX12_init 58 = .ok (.newarray .int, 2) := by decide +kernel
theorem dX12_init_60 : decode cX12_init 60 = .ok (.putfield 28, 3) := by decide +kernel
theorem dX12_init_63 : decode cX12_init 63 = .ok (.aload_n 0, 1) := by decide +kernel
theorem dX12_init_64 : decode cX12_init 64 = .ok (.sipush 700, 3) := by decide +kernel
theorem dX12_init_67 : decode cX12_init 67 = .ok (.newarray .int, 2) := by decide +kernel
theorem dX12_init_69 : decode cX12_init 69 = .ok (.putfield 31, 3) := by decide +kernel
theorem dX12_init_72 : decode cX12_init 72 = .ok (.aload_n 0, 1) := by decide +kernel
theorem dX12_init_73 : decode cX12_init 73 = .ok (.bipush 6, 2) := by decide +kernel
theorem dX12_init_75 : decode cX12_init 75 = .ok (.newarray .int, 2) := by decide +kernel
theorem dX12_init_77 : decode cX12_init 77 = .ok (.putfield 34, 3) := by decide +kernel
theorem dX12_init_80 : decode cX12_init 80 = .ok (.aload_n 0, 1) := by decide +kernel
theorem dX12_init_81 : decode cX12_init 81 = .ok (.bipush 80, 2) := by decide +kernel
theorem dX12_init_83 : decode cX12_init 83 = .ok (.newarray .int, 2) := by decide +kernel
theorem dX12_init_85 : decode cX12_init 85 = .ok (.putfield 37, 3) := by decide +kernel
theorem dX12_init_88 : decode cX12_init 88 = .ok (.aload_n 0, 1) := by decide +kernel
theorem dX12_init_89 : decode cX12_init 89 = .ok (.iconst 2, 1) := by decide +kernel
theorem dX12_init_90 : decode cX12_init 90 = .ok (.newarray .int, 2) := by decide +kernel
theorem dX12_init_92 : decode cX12_init 92 = .ok (.putfield 40, 3) := by decide +kernel
theorem dX12_init_95 : decode cX12_init 95 = .ok (.aload_n 0, 1) := by decide +kernel
theorem dX12_init_96 : decode cX12_init 96 = .ok (.bipush 24, 2) := by decide +kernel
theorem dX12_init_98 : decode cX12_init 98 = .ok (.newarray .int, 2) := by decide +kernel
theorem dX12_init_100 : decode cX12_init 100 = .ok (.putfield 43, 3) := by decide +kernel
theorem dX12_init_103 : decode cX12_init 103 = .ok (.aload_n 0, 1) := by decide +kernel
theorem dX12_init_104 : decode cX12_init 104 = .ok (.bipush 10, 2) := by decide +kernel
theorem dX12_init_106 : decode cX12_init 106 = .ok (.newarray .int, 2) := by decide +kernel
theorem dX12_init_108 : decode cX12_init 108 = .ok (.putfield 46, 3) := by decide +kernel
theorem dX12_init_111 : decode cX12_init 111 = .ok (.aload_n 0, 1) := by decide +kernel
theorem dX12_init_112 : decode cX12_init 112 = .ok (.iconst 2, 1) := by decide +kernel
theorem dX12_init_113 : decode cX12_init 113 = .ok (.newarray .int, 2) := by decide +kernel
theorem dX12_init_115 : decode cX12_init 115 = .ok (.putfield 49, 3) := by decide +kernel
theorem dX12_init_118 : decode cX12_init 118 = .ok (.aload_n 0, 1) := by decide +kernel
theorem dX12_init_119 : decode cX12_init 119 = .ok (.bipush 24, 2) := by decide +kernel
theorem dX12_init_121 : decode cX12_init 121 = .ok (.newarray .int, 2) := by decide +kernel
theorem dX12_init_123 : decode cX12_init 123 = .ok (.putfield 52, 3) := by decide +kernel
theorem dX12_init_126 : decode cX12_init 126 = .ok (.aload_n 0, 1) := by decide +kernel
theorem dX12_init_127 : decode cX12_init 127 = .ok (.bipush 10, 2) := by decide +kernel
theorem dX12_init_129 : decode cX12_init 129 = .ok (.newarray .int, 2) := by decide +kernel
theorem dX12_init_131 : decode cX12_init 131 = .ok (.putfield 55, 3) := by decide +kernel
theorem dX12_init_134 : decode cX12_init 134 = .ok (.aload_n 0, 1) := by decide +kernel
theorem dX12_init_135 : decode cX12_init 135 = .ok (.sipush 250, 3) := by decide +kernel
theorem dX12_init_138 : decode cX12_init 138 = .ok (.newarray .int, 2) := by decide +kernel
theorem dX12_init_140 : decode cX12_init 140 = .ok (.putfield 58, 3) := by decide +kernel
theorem dX12_init_143 : decode cX12_init 143 = .ok (.aload_n 0, 1) := by decide +kernel
theorem dX12_init_144 : decode cX12_init 144 = .ok (.iconst 5, 1) := by decide +kernel
theorem dX12_init_145 : decode cX12_init 145 = .ok (.newarray .int, 2) := by decide +kernel
theorem dX12_init_147 : decode cX12_init 147 = .ok (.putfield 61, 3) := by decide +kernel
theorem dX12_init_150 : decode cX12_init 150 = .ok (.aload_n 0, 1) := by decide +kernel
theorem dX12_init_151 : decode cX12_init 151 = .ok (.iconst (-1), 1) := by decide +kernel
theorem dX12_init_152 : decode cX12_init 152 = .ok (.putfield 64, 3) := by decide +kernel
theorem dX12_init_155 : decode cX12_init 155 = .ok (.aload_n 0, 1) := by decide +kernel
theorem dX12_init_156 : decode cX12_init 156 = .ok (.iconst 1, 1) := by decide +kernel
theorem dX12_init_157 : decode cX12_init 157 = .ok (.putfield 68, 3) := by decide +kernel
theorem dX12_init_160 : decode cX12_init 160 = .ok (.aload_n 0, 1) := by decide +kernel
theorem dX12_init_161 : decode cX12_init 161 = .ok (.sipush 10000, 3) := by decide +kernel
theorem dX12_init_164 : decode cX12_init 164 = .ok (.newarray .int, 2) := by decide +kernel
theorem dX12_init_166 : decode cX12_init 166 = .ok (.putfield 71, 3) := by decide +kernel
theorem dX12_init_169 : decode cX12_init 169 = .ok (.aload_n 0, 1) := by decide +kernel
theorem dX12_init_170 : decode cX12_init 170 = .ok (.bipush 6, 2) := by decide +kernel
theorem dX12_init_172 : decode cX12_init 172 = .ok (.newarray .int, 2) := by decide +kernel
theorem dX12_init_174 : decode cX12_init 174 = .ok (.putfield 74, 3) := by decide +kernel
theorem dX12_init_177 : decode cX12_init 177 = .ok (.aload_n 0, 1) := by decide +kernel
theorem dX12_init_178 : decode cX12_init 178 = .ok (.bipush 69, 2) := by decide +kernel
theorem dX12_init_180 : decode cX12_init 180 = .ok (.newarray .int, 2) := by decide +kernel
theorem dX12_init_182 : decode cX12_init 182 = .ok (.putfield 77, 3) := by decide +kernel
theorem dX12_init_185 : decode cX12_init 185 = .ok (.aload_n 0, 1) := by decide +kernel
theorem dX12_init_186 : decode cX12_init 186 = .ok (.bipush 10, 2) := by decide +kernel
theorem dX12_init_188 : decode cX12_init 188 = .ok (.newarray .int, 2) := by decide +kernel
theorem dX12_init_190 : decode cX12_init 190 = .ok (.putfield 80, 3) := by decide +kernel
theorem dX12_init_193 : decode cX12_init 193 = .ok (.aload_n 0, 1) := by decide +kernel
theorem dX12_init_194 : decode cX12_init 194 = .ok (.bipush 10, 2) := by decide +kernel
theorem dX12_init_196 : decode cX12_init 196 = .ok (.newarray .int, 2) := by decide +kernel
theorem dX12_init_198 : decode cX12_init 198 = .ok (.putfield 83, 3) := by decide +kernel
theorem dX12_init_201 : decode cX12_init 201 = .ok (.aload_n 0, 1) := by decide +kernel
theorem dX12_init_202 : decode cX12_init 202 = .ok (.bipush 10, 2) := by decide +kernel
theorem dX12_init_204 : decode cX12_init 204 = .ok (.newarray .int, 2) := by decide +kernel
theorem dX12_init_206 : decode cX12_init 206 = .ok (.putfield 86, 3) := by decide +kernel
theorem dX12_init_209 : decode cX12_init 209 = .ok (.aload_n 0, 1) := by decide +kernel
theorem dX12_init_210 : decode cX12_init 210 = .ok (.bipush 10, 2) := by decide +kernel
theorem dX12_init_212 : decode cX12_init 212 = .ok (.newarray .boolean, 2) := by decide +kernel
theorem dX12_init_214 : decode cX12_init 214 = .ok (.putfield 89, 3) := by decide +kernel
theorem dX12_init_217 : decode cX12_init 217 = .ok (.aload_n 0, 1) := by decide +kernel
theorem dX12_init_218 : decode cX12_init 218 = .ok (.sipush 250, 3) := by decide +kernel
theorem dX12_init_221 : decode cX12_init 221 = .ok (.newarray .int, 2) := by decide +kernel
theorem dX12_init_223 : decode cX12_init 223 = .ok (.putfield 93, 3) := by decide +kernel
theorem dX12_init_226 : decode cX12_init 226 = .ok (.return_, 1) := by decide +kernel
theorem dX12_thrown_0 : decode cX12_thrown 0 = .ok (.aload_n 0, 1) := by decide +kernel
theorem dX12_thrown_1 : decode cX12_thrown 1 = .ok (.getfield 96, 3) := by decide +kernel
theorem dX12_thrown_4 : decode cX12_thrown 4 = .ok (.ireturn, 1) := by decide +kernel
theorem dX12_byteOf_0 : decode cX12_byteOf 0 = .ok (.iload 5, 2) := by decide +kernel
theorem dX12_byteOf_2 : decode cX12_byteOf 2 = .ok (.iconst 4, 1) := by decide +kernel
theorem dX12_byteOf_3 : decode cX12_byteOf 3 = .ok (.if_icmp .ge 7, 3) := by decide +kernel
theorem dX12_byteOf_6 : decode cX12_byteOf 6 = .ok (.iload_n 0, 1) := by decide +kernel
theorem dX12_byteOf_7 : decode cX12_byteOf 7 = .ok (.goto 38, 3) := by decide +kernel
theorem dX12_byteOf_10 : decode cX12_byteOf 10 = .ok (.iload 5, 2) := by decide +kernel
theorem dX12_byteOf_12 : decode cX12_byteOf 12 = .ok (.bipush 8, 2) := by decide +kernel
theorem dX12_byteOf_14 : decode cX12_byteOf 14 = .ok (.if_icmp .ge 7, 3) := by decide +kernel
theorem dX12_byteOf_17 : decode cX12_byteOf 17 = .ok (.iload_n 1, 1) := by decide +kernel
theorem dX12_byteOf_18 : decode cX12_byteOf 18 = .ok (.goto 27, 3) := by decide +kernel
theorem dX12_byteOf_21 : decode cX12_byteOf 21 = .ok (.iload 5, 2) := by decide +kernel
theorem dX12_byteOf_23 : decode cX12_byteOf 23 = .ok (.bipush 12, 2) := by decide +kernel
theorem dX12_byteOf_25 : decode cX12_byteOf 25 = .ok (.if_icmp .ge 7, 3) := by decide +kernel
theorem dX12_byteOf_28 : decode cX12_byteOf 28 = .ok (.iload_n 2, 1) := by decide +kernel
theorem dX12_byteOf_29 : decode cX12_byteOf 29 = .ok (.goto 16, 3) := by decide +kernel
theorem dX12_byteOf_32 : decode cX12_byteOf 32 = .ok (.iload 5, 2) := by decide +kernel
theorem dX12_byteOf_34 : decode cX12_byteOf 34 = .ok (.bipush 16, 2) := by decide +kernel
theorem dX12_byteOf_36 : decode cX12_byteOf 36 = .ok (.if_icmp .ge 7, 3) := by decide +kernel
theorem dX12_byteOf_39 : decode cX12_byteOf 39 = .ok (.iload_n 3, 1) := by decide +kernel
theorem dX12_byteOf_40 : decode cX12_byteOf 40 = .ok (.goto 5, 3) := by decide +kernel
theorem dX12_byteOf_43 : decode cX12_byteOf 43 = .ok (.iload 4, 2) := by decide +kernel
theorem dX12_byteOf_45 : decode cX12_byteOf 45 = .ok (.istore 6, 2) := by decide +kernel
theorem dX12_byteOf_47 : decode cX12_byteOf 47 = .ok (.iload 6, 2) := by decide +kernel
theorem dX12_byteOf_49 : decode cX12_byteOf 49 = .ok (.bipush 24, 2) := by decide +kernel
theorem dX12_byteOf_51 : decode cX12_byteOf 51 = .ok (.bipush 8, 2) := by decide +kernel
theorem dX12_byteOf_53 : decode cX12_byteOf 53 = .ok (.iload 5, 2) := by decide +kernel
theorem dX12_byteOf_55 : decode cX12_byteOf 55 = .ok (.iconst 4, 1) := by decide +kernel
theorem dX12_byteOf_56 : decode cX12_byteOf 56 = .ok (.irem, 1) := by decide +kernel
theorem dX12_byteOf_57 : decode cX12_byteOf 57 = .ok (.imul, 1) := by decide +kernel
theorem dX12_byteOf_58 : decode cX12_byteOf 58 = .ok (.isub, 1) := by decide +kernel
theorem dX12_byteOf_59 : decode cX12_byteOf 59 = .ok (.ishr, 1) := by decide +kernel
theorem dX12_byteOf_60 : decode cX12_byteOf 60 = .ok (.sipush 255, 3) := by decide +kernel
theorem dX12_byteOf_63 : decode cX12_byteOf 63 = .ok (.iand, 1) := by decide +kernel
theorem dX12_byteOf_64 : decode cX12_byteOf 64 = .ok (.ireturn, 1) := by decide +kernel
set_option maxRecDepth 20000 in
theorem ggX12_feed_X12_byteOf : GoodIn wsX12_feed wsX12_byteOf := goodIn_r _ [6] rfl rfl
set_option maxRecDepth 20000 in
theorem gX12_feed_X12_byteOf : GoodIn wsX12_feed (va_wsS RX12 99 yX12_byteOf wsX12_byteOf) := goodIn_app (goodIn_r _ [3, 4, 5] rfl rfl) ggX12_feed_X12_byteOf
theorem dX12_feed_0 : decode cX12_feed 0 = .ok (.iconst 0, 1) := by decide +kernel
theorem dX12_feed_1 : decode cX12_feed 1 = .ok (.istore 6, 2) := by decide +kernel
theorem dX12_feed_3 : decode cX12_feed 3 = .ok (.iconst 0, 1) := by decide +kernel
theorem dX12_feed_4 : decode cX12_feed 4 = .ok (.istore 7, 2) := by decide +kernel
theorem dX12_feed_6 : decode cX12_feed 6 = .ok (.iload 7, 2) := by decide +kernel
theorem dX12_feed_8 : decode cX12_feed 8 = .ok (.bipush 20, 2) := by decide +kernel
theorem dX12_feed_10 : decode cX12_feed 10 = .ok (.if_icmp .ge 34, 3) := by decide +kernel
theorem dX12_feed_13 : decode cX12_feed 13 = .ok (.iload 6, 2) := by decide +kernel
theorem dX12_feed_15 : decode cX12_feed 15 = .ok (.iload_n 1, 1) := by decide +kernel
theorem dX12_feed_16 : decode cX12_feed 16 = .ok (.iload_n 2, 1) := by decide +kernel
theorem dX12_feed_17 : decode cX12_feed 17 = .ok (.iload_n 3, 1) := by decide +kernel
theorem dX12_feed_18 : decode cX12_feed 18 = .ok (.iload 4, 2) := by decide +kernel
theorem dX12_feed_20 : decode cX12_feed 20 = .ok (.iload 5, 2) := by decide +kernel
theorem dX12_feed_22 : decode cX12_feed 22 = .ok (.iload 7, 2) := by decide +kernel
theorem dX12_feed_24 : decode cX12_feed 24 = .ok (.invokestatic 99, 3) := by decide +kernel
theorem dX12_feed_27 : decode cX12_feed 27 = .ok (.ifCond .eq 7, 3) := by decide +kernel
theorem dX12_feed_30 : decode cX12_feed 30 = .ok (.iconst 1, 1) := by decide +kernel
theorem dX12_feed_31 : decode cX12_feed 31 = .ok (.goto 4, 3) := by decide +kernel
theorem dX12_feed_34 : decode cX12_feed 34 = .ok (.iconst 0, 1) := by decide +kernel
theorem dX12_feed_35 : decode cX12_feed 35 = .ok (.iadd, 1) := by decide +kernel
theorem dX12_feed_36 : decode cX12_feed 36 = .ok (.istore 6, 2) := by decide +kernel
theorem dX12_feed_38 : decode cX12_feed 38 = .ok (.iinc 7 1, 3) := by decide +kernel
theorem dX12_feed_41 : decode cX12_feed 41 = .ok (.goto (-35), 3) := by decide +kernel
theorem dX12_feed_44 : decode cX12_feed 44 = .ok (.aload_n 0, 1) := by decide +kernel
theorem dX12_feed_45 : decode cX12_feed 45 = .ok (.getfield 103, 3) := by decide +kernel
theorem dX12_feed_48 : decode cX12_feed 48 = .ok (.iload 6, 2) := by decide +kernel
theorem dX12_feed_50 : decode cX12_feed 50 = .ok (.iadd, 1) := by decide +kernel
theorem dX12_feed_51 : decode cX12_feed 51 = .ok (.sipush 240, 3) := by decide +kernel
theorem dX12_feed_54 : decode cX12_feed 54 = .ok (.if_icmp .le 5, 3) := by decide +kernel
theorem dX12_feed_57 : decode cX12_feed 57 = .ok (.iconst (-1), 1) := by decide +kernel
theorem dX12_feed_58 : decode cX12_feed 58 = .ok (.ireturn, 1) := by decide +kernel
theorem dX12_feed_59 : decode cX12_feed 59 = .ok (.iconst 0, 1) := by decide +kernel
theorem dX12_feed_60 : decode cX12_feed 60 = .ok (.istore 7, 2) := by decide +kernel
theorem dX12_feed_62 : decode cX12_feed 62 = .ok (.iload 7, 2) := by decide +kernel
theorem dX12_feed_64 : decode cX12_feed 64 = .ok (.bipush 20, 2) := by decide +kernel
theorem dX12_feed_66 : decode cX12_feed 66 = .ok (.if_icmp .ge 49, 3) := by decide +kernel
theorem dX12_feed_69 : decode cX12_feed 69 = .ok (.iload_n 1, 1) := by decide +kernel
theorem dX12_feed_70 : decode cX12_feed 70 = .ok (.iload_n 2, 1) := by decide +kernel
theorem dX12_feed_71 : decode cX12_feed 71 = .ok (.iload_n 3, 1) := by decide +kernel
theorem dX12_feed_72 : decode cX12_feed 72 = .ok (.iload 4, 2) := by decide +kernel
theorem dX12_feed_74 : decode cX12_feed 74 = .ok (.iload 5, 2) := by decide +kernel
theorem dX12_feed_76 : decode cX12_feed 76 = .ok (.iload 7, 2) := by decide +kernel
theorem dX12_feed_78 : decode cX12_feed 78 = .ok (.invokestatic 99, 3) := by decide +kernel
theorem dX12_feed_81 : decode cX12_feed 81 = .ok (.istore 8, 2) := by decide +kernel
theorem dX12_feed_83 : decode cX12_feed 83 = .ok (.iload 8, 2) := by decide +kernel
theorem dX12_feed_85 : decode cX12_feed 85 = .ok (.ifCond .eq 24, 3) := by decide +kernel
theorem dX12_feed_88 : decode cX12_feed 88 = .ok (.aload_n 0, 1) := by decide +kernel
theorem dX12_feed_89 : decode cX12_feed 89 = .ok (.getfield 9, 3) := by decide +kernel
theorem dX12_feed_92 : decode cX12_feed 92 = .ok (.aload_n 0, 1) := by decide +kernel
theorem dX12_feed_93 : decode cX12_feed 93 = .ok (.getfield 103, 3) := by decide +kernel
theorem dX12_feed_96 : decode cX12_feed 96 = .ok (.iload 8, 2) := by decide +kernel
theorem dX12_feed_98 : decode cX12_feed 98 = .ok (.iastore, 1) := by decide +kernel
theorem dX12_feed_99 : decode cX12_feed 99 = .ok (.aload_n 0, 1) := by decide +kernel
theorem dX12_feed_100 : decode cX12_feed 100 = .ok (.dup, 1) := by decide +kernel
theorem dX12_feed_101 : decode cX12_feed 101 = .ok (.getfield 103, 3) := by decide +kernel
theorem dX12_feed_104 : decode cX12_feed 104 = .ok (.iconst 1, 1) := by decide +kernel
theorem dX12_feed_105 : decode cX12_feed 105 = .ok (.iadd, 1) := by decide +kernel
theorem dX12_feed_106 : decode cX12_feed 106 = .ok (.putfield 103, 3) := by decide +kernel
theorem dX12_feed_109 : decode cX12_feed 109 = .ok (.iinc 7 1, 3) := by decide +kernel
theorem dX12_feed_112 : decode cX12_feed 112 = .ok (.goto (-50), 3) := by decide +kernel
theorem dX12_feed_115 : decode cX12_feed 115 = .ok (.aload_n 0, 1) := by decide +kernel
theorem dX12_feed_116 : decode cX12_feed 116 = .ok (.getfield 103, 3) := by decide +kernel
theorem dX12_feed_119 : decode cX12_feed 119 = .ok (.ireturn, 1) := by decide +kernel
theorem dX12_end_0 : decode cX12_end 0 = .ok (.iload_n 1, 1) := by decide +kernel
theorem dX12_end_1 : decode cX12_end 1 = .ok (.ifCond .lt 11, 3) := by decide +kernel
theorem dX12_end_4 : decode cX12_end 4 = .ok (.iload_n 1, 1) := by decide +kernel
theorem dX12_end_5 : decode cX12_end 5 = .ok (.aload_n 0, 1) := by decide +kernel
theorem dX12_end_6 : decode cX12_end 6 = .ok (.getfield 103, 3) := by decide +kernel
theorem dX12_end_9 : decode cX12_end 9 = .ok (.if_icmp .le 5, 3) := by decide +kernel
theorem dX12_end_12 : decode cX12_end 12 = .ok (.iconst 0, 1) := by decide +kernel
theorem dX12_end_13 : decode cX12_end 13 = .ok (.ireturn, 1) := by decide +kernel
theorem dX12_end_14 : decode cX12_end 14 = .ok (.aload_n 0, 1) := by decide +kernel
theorem dX12_end_15 : decode cX12_end 15 = .ok (.iload_n 1, 1) := by decide +kernel
theorem dX12_end_16 : decode cX12_end 16 = .ok (.putfield 103, 3) := by decide +kernel
theorem dX12_end_19 : decode cX12_end 19 = .ok (.iconst 1, 1) := by decide +kernel
theorem dX12_end_20 : decode cX12_end 20 = .ok (.ireturn, 1) := by decide +kernel
theorem dX12_here_0 : decode cX12_here 0 = .ok (.aload_n 0, 1) := by decide +kernel
theorem dX12_here_1 : decode cX12_here 1 = .ok (.getfield 106, 3) := by decide +kernel
theorem dX12_here_4 : decode cX12_here 4 = .ok (.aload_n 0, 1) := by decide +kernel
theorem dX12_here_5 : decode cX12_here 5 = .ok (.getfield 103, 3) := by decide +kernel
theorem dX12_here_8 : decode cX12_here 8 = .ok (.if_icmp .ge 15, 3) := by decide +kernel
theorem dX12_here_11 : decode cX12_here 11 = .ok (.aload_n 0, 1) := by decide +kernel
theorem dX12_here_12 : decode cX12_here 12 = .ok (.getfield 9, 3) := by decide +kernel
theorem dX12_here_15 : decode cX12_here 15 = .ok (.aload_n 0, 1) := by decide +kernel
theorem dX12_here_16 : decode cX12_here 16 = .ok (.getfield 106, 3) := by decide +kernel
theorem dX12_here_19 : decode cX12_here 19 = .ok (.iaload, 1) := by decide +kernel
theorem dX12_here_20 : decode cX12_here 20 = .ok (.goto 4, 3) := by decide +kernel
theorem dX12_here_23 : decode cX12_here 23 = .ok (.iconst (-1), 1) := by decide +kernel
theorem dX12_here_24 : decode cX12_here 24 = .ok (.ireturn, 1) := by decide +kernel
set_option maxRecDepth 20000 in
theorem ggX12_look_X12_here : GoodIn wsX12_look wsX12_here := goodIn_r _ [6, 1, 7, 8, 9, 10, 11, 12, 13, 14, 15, 16, 17, 18, 19, 20, 21, 22, 23, 24, 25, 26, 27, 28, 29, 30, 31, 32, 33, 34, 35, 36, 37, 38, 39, 40, 41, 42, 43, 44, 45, 46, 47, 48, 49, 50, 51, 52, 53, 54] rfl rfl
set_option maxRecDepth 20000 in
theorem gX12_look_X12_here : GoodIn wsX12_look (wsV RX12 109 RX12 yX12_here wsX12_here) := goodIn_app (goodIn_r _ [2, 3, 4, 5] rfl rfl) ggX12_look_X12_here
theorem dX12_look_0 : decode cX12_look 0 = .ok (.aload_n 0, 1) := by decide +kernel
theorem dX12_look_1 : decode cX12_look 1 = .ok (.invokevirtual 109, 3) := by decide +kernel
theorem dX12_look_4 : decode cX12_look 4 = .ok (.bipush 32, 2) := by decide +kernel
theorem dX12_look_6 : decode cX12_look 6 = .ok (.if_icmp .ne 16, 3) := by decide +kernel
theorem dX12_look_9 : decode cX12_look 9 = .ok (.aload_n 0, 1) := by decide +kernel
theorem dX12_look_10 : decode cX12_look 10 = .ok (.dup, 1) := by decide +kernel
theorem dX12_look_11 : decode cX12_look 11 = .ok (.getfield 106, 3) := by decide +kernel
theorem dX12_look_14 : decode cX12_look 14 = .ok (.iconst 1, 1) := by decide +kernel
theorem dX12_look_15 : decode cX12_look 15 = .ok (.iadd, 1) := by decide +kernel
theorem dX12_look_16 : decode cX12_look 16 = .ok (.putfield 106, 3) := by decide +kernel
theorem dX12_look_19 : decode cX12_look 19 = .ok (.goto (-19), 3) := by decide +kernel
theorem dX12_look_22 : decode cX12_look 22 = .ok (.aload_n 0, 1) := by decide +kernel
theorem dX12_look_23 : decode cX12_look 23 = .ok (.invokevirtual 109, 3) := by decide +kernel
theorem dX12_look_26 : decode cX12_look 26 = .ok (.ireturn, 1) := by decide +kernel
theorem dX12_bad_0 : decode cX12_bad 0 = .ok (.aload_n 0, 1) := by decide +kernel
theorem dX12_bad_1 : decode cX12_bad 1 = .ok (.aload_n 0, 1) := by decide +kernel
theorem dX12_bad_2 : decode cX12_bad 2 = .ok (.getfield 113, 3) := by decide +kernel
theorem dX12_bad_5 : decode cX12_bad 5 = .ok (.iconst (-1), 1) := by decide +kernel
theorem dX12_bad_6 : decode cX12_bad 6 = .ok (.if_icmp .ne 10, 3) := by decide +kernel
theorem dX12_bad_9 : decode cX12_bad 9 = .ok (.aload_n 0, 1) := by decide +kernel
theorem dX12_bad_10 : decode cX12_bad 10 = .ok (.getfield 106, 3) := by decide +kernel
theorem dX12_bad_13 : decode cX12_bad 13 = .ok (.goto 7, 3) := by decide +kernel
theorem dX12_bad_16 : decode cX12_bad 16 = .ok (.aload_n 0, 1) := by decide +kernel
theorem dX12_bad_17 : decode cX12_bad 17 = .ok (.getfield 113, 3) := by decide +kernel
theorem dX12_bad_20 : decode cX12_bad 20 = .ok (.putfield 113, 3) := by decide +kernel
theorem dX12_bad_23 : decode cX12_bad 23 = .ok (.return_, 1) := by decide +kernel
theorem dX12_isDigit_0 : decode cX12_isDigit 0 = .ok (.iload_n 0, 1) := by decide +kernel
theorem dX12_isDigit_1 : decode cX12_isDigit 1 = .ok (.bipush 48, 2) := by decide +kernel
theorem dX12_isDigit_3 : decode cX12_isDigit 3 = .ok (.if_icmp .lt 13, 3) := by decide +kernel
theorem dX12_isDigit_6 : decode cX12_isDigit 6 = .ok (.iload_n 0, 1) := by decide +kernel
theorem dX12_isDigit_7 : decode cX12_isDigit 7 = .ok (.bipush 57, 2) := by decide +kernel
theorem dX12_isDigit_9 : decode cX12_isDigit 9 = .ok (.if_icmp .gt 7, 3) := by decide +kernel
theorem dX12_isDigit_12 : decode cX12_isDigit 12 = .ok (.iconst 1, 1) := by decide +kernel
theorem dX12_isDigit_13 : decode cX12_isDigit 13 = .ok (.goto 4, 3) := by decide +kernel
theorem dX12_isDigit_16 : decode cX12_isDigit 16 = .ok (.iconst 0, 1) := by decide +kernel
theorem dX12_isDigit_17 : decode cX12_isDigit 17 = .ok (.ireturn, 1) := by decide +kernel
theorem dX12_put_0 : decode cX12_put 0 = .ok (.aload_n 0, 1) := by decide +kernel
theorem dX12_put_1 : decode cX12_put 1 = .ok (.getfield 13, 3) := by decide +kernel
theorem dX12_put_4 : decode cX12_put 4 = .ok (.sipush 520, 3) := by decide +kernel
theorem dX12_put_7 : decode cX12_put 7 = .ok (.aload_n 0, 1) := by decide +kernel
theorem dX12_put_8 : decode cX12_put 8 = .ok (.getfield 116, 3) := by decide +kernel
theorem dX12_put_11 : decode cX12_put 11 = .ok (.imul, 1) := by decide +kernel
theorem dX12_put_12 : decode cX12_put 12 = .ok (.aload_n 0, 1) := by decide +kernel
theorem dX12_put_13 : decode cX12_put 13 = .ok (.getfield 19, 3) := by decide +kernel
theorem dX12_put_16 : decode cX12_put 16 = .ok (.aload_n 0, 1) := by decide +kernel
theorem dX12_put_17 : decode cX12_put 17 = .ok (.getfield 116, 3) := by decide +kernel
theorem dX12_put_20 : decode cX12_put 20 = .ok (.iaload, 1) := by decide +kernel
theorem dX12_put_21 : decode cX12_put 21 = .ok (.iadd, 1) := by decide +kernel
theorem dX12_put_22 : decode cX12_put 22 = .ok (.iload_n 1, 1) := by decide +kernel
theorem dX12_put_23 : decode cX12_put 23 = .ok (.iastore, 1) := by decide +kernel
theorem dX12_put_24 : decode cX12_put 24 = .ok (.aload_n 0, 1) := by decide +kernel
theorem dX12_put_25 : decode cX12_put 25 = .ok (.getfield 16, 3) := by decide +kernel
theorem dX12_put_28 : decode cX12_put 28 = .ok (.sipush 520, 3) := by decide +kernel
theorem dX12_put_31 : decode cX12_put 31 = .ok (.aload_n 0, 1) := by decide +kernel
theorem dX12_put_32 : decode cX12_put 32 = .ok (.getfield 116, 3) := by decide +kernel
theorem dX12_put_35 : decode cX12_put 35 = .ok (.imul, 1) := by decide +kernel
theorem dX12_put_36 : decode cX12_put 36 = .ok (.aload_n 0, 1) := by decide +kernel
theorem dX12_put_37 : decode cX12_put 37 = .ok (.getfield 19, 3) := by decide +kernel
theorem dX12_put_40 : decode cX12_put 40 = .ok (.aload_n 0, 1) := by decide +kernel
theorem dX12_put_41 : decode cX12_put 41 = .ok (.getfield 116, 3) := by decide +kernel
theorem dX12_put_44 : decode cX12_put 44 = .ok (.iaload, 1) := by decide +kernel
theorem dX12_put_45 : decode cX12_put 45 = .ok (.iadd, 1) := by decide +kernel
theorem dX12_put_46 : decode cX12_put 46 = .ok (.iload_n 2, 1) := by decide +kernel
theorem dX12_put_47 : decode cX12_put 47 = .ok (.iastore, 1) := by decide +kernel
theorem dX12_put_48 : decode cX12_put 48 = .ok (.aload_n 0, 1) := by decide +kernel
theorem dX12_put_49 : decode cX12_put 49 = .ok (.getfield 19, 3) := by decide +kernel
theorem dX12_put_52 : decode cX12_put 52 = .ok (.aload_n 0, 1) := by decide +kernel
theorem dX12_put_53 : decode cX12_put 53 = .ok (.getfield 116, 3) := by decide +kernel
theorem dX12_put_56 : decode cX12_put 56 = .ok (.dup2, 1) := by decide +kernel
theorem dX12_put_57 : decode cX12_put 57 = .ok (.iaload, 1) := by decide +kernel
theorem dX12_put_58 : decode cX12_put 58 = .ok (.iconst 1, 1) := by decide +kernel
theorem dX12_put_59 : decode cX12_put 59 = .ok (.iadd, 1) := by decide +kernel
theorem dX12_put_60 : decode cX12_put 60 = .ok (.iastore, 1) := by decide +kernel
theorem dX12_put_61 : decode cX12_put 61 = .ok (.return_, 1) := by decide +kernel
theorem dX12_letterOf_0 : decode cX12_letterOf 0 = .ok (.iload_n 0, 1) := by decide +kernel
theorem dX12_letterOf_1 : decode cX12_letterOf 1 = .ok (.bipush 102, 2) := by decide +kernel
theorem dX12_letterOf_3 : decode cX12_letterOf 3 = .ok (.if_icmp .ne 7, 3) := by decide +kernel
theorem dX12_letterOf_6 : decode cX12_letterOf 6 = .ok (.iconst 0, 1) := by decide +kernel
theorem dX12_letterOf_7 : decode cX12_letterOf 7 = .ok (.goto 54, 3) := by decide +kernel
theorem dX12_letterOf_10 : decode cX12_letterOf 10 = .ok (.iload_n 0, 1) := by decide +kernel
theorem dX12_letterOf_11 : decode cX12_letterOf 11 = .ok (.bipush 115, 2) := by decide +kernel
theorem dX12_letterOf_13 : decode cX12_letterOf 13 = .ok (.if_icmp .ne 7, 3) := by decide +kernel
theorem dX12_letterOf_16 : decode cX12_letterOf 16 = .ok (.iconst 1, 1) := by decide +kernel
