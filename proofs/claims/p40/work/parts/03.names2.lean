theorem ggX11_swallow_X9_coins : GoodIn wsX11_swallow wsX9_coins := (bg_up (bg_law (bi_wsL_law0_r23 _ (List.mem_of_getElem? (i := 13) rfl))))
theorem gX11_swallow_X9_coins : GoodIn wsX11_swallow (wsV RX11 152 RX9 yX9_coins wsX9_coins) := goodIn_app (bg_up (bg_cons (bi_wsL_law0_r23 _ (List.mem_of_getElem? (i := 10) rfl)) (bg_cons (bi_wsL_law0_r23 _ (List.mem_of_getElem? (i := 11) rfl)) (bg_cons (bi_wsL_law0_r23 _ (List.mem_of_getElem? (i := 12) rfl)) (bg_cons (bi_wsL_law0_r2 _ (List.mem_of_getElem? (i := 12) rfl)) bg_nil))))) (bg_up (bg_law (bi_wsL_law0_r23 _ (List.mem_of_getElem? (i := 13) rfl))))
theorem ggX11_swallow_X0_keep : GoodIn wsX11_swallow wsX0_keep := (bg_up (bg_law (bi_wsL_law0_r28 _ (List.mem_of_getElem? (i := 20) rfl))))
theorem gX11_swallow_X0_keep : GoodIn wsX11_swallow (wsV RX11 213 RX0 yX0_keep wsX0_keep) := goodIn_app (bg_up (bg_cons (bi_wsL_law0_r28 _ (List.mem_of_getElem? (i := 17) rfl)) (bg_cons (bi_wsL_law0_r28 _ (List.mem_of_getElem? (i := 18) rfl)) (bg_cons (bi_wsL_law0_r28 _ (List.mem_of_getElem? (i := 19) rfl)) (bg_cons (bi_wsL_law0_r2 _ (List.mem_of_getElem? (i := 21) rfl)) bg_nil))))) (bg_up (bg_law (bi_wsL_law0_r28 _ (List.mem_of_getElem? (i := 20) rfl))))
theorem ggX11_swallow_X9_pay : GoodIn wsX11_swallow wsX9_pay := (bg_up (bg_law (bi_wsL_law0_r29 _ (List.mem_of_getElem? (i := 4) rfl))))
theorem gX11_swallow_X9_pay : GoodIn wsX11_swallow (wsV RX11 217 RX9 yX9_pay wsX9_pay) := goodIn_app (bg_up (bg_cons (bi_wsL_law0_r29 _ (List.mem_of_getElem? (i := 1) rfl)) (bg_cons (bi_wsL_law0_r29 _ (List.mem_of_getElem? (i := 2) rfl)) (bg_cons (bi_wsL_law0_r29 _ (List.mem_of_getElem? (i := 3) rfl)) (bg_cons (bi_wsL_law0_r2 _ (List.mem_of_getElem? (i := 12) rfl)) bg_nil))))) (bg_up (bg_law (bi_wsL_law0_r29 _ (List.mem_of_getElem? (i := 4) rfl))))
theorem ggX11_swallow_X9_setPride : GoodIn wsX11_swallow wsX9_setPride := (bg_up (bg_law (bi_wsL_law0_r35 _ (List.mem_of_getElem? (i := 10) rfl))))
theorem gX11_swallow_X9_setPride : GoodIn wsX11_swallow (wsV RX11 230 RX9 yX9_setPride wsX9_setPride) := goodIn_app (bg_up (bg_cons (bi_wsL_law0_r35 _ (List.mem_of_getElem? (i := 7) rfl)) (bg_cons (bi_wsL_law0_r35 _ (List.mem_of_getElem? (i := 8) rfl)) (bg_cons (bi_wsL_law0_r35 _ (List.mem_of_getElem? (i := 9) rfl)) (bg_cons (bi_wsL_law0_r2 _ (List.mem_of_getElem? (i := 12) rfl)) bg_nil))))) (bg_up (bg_law (bi_wsL_law0_r35 _ (List.mem_of_getElem? (i := 10) rfl))))
def ztdX11_swallow_0 : List (Nat × Instr × Nat) := [(0, .aload_n 0, 1), (1, .invokevirtual 146, 3), (4, .ifCond .eq 9, 3), (7, .aload_n 0, 1), (8, .iconst 0, 1), (9, .invokevirtual 210, 3), (12, .ireturn, 1), (13, .aload_n 0, 1), (14, .getfield 51, 3), (17, .invokevirtual 149, 3), (20, .ifCond .ne 9, 3), (23, .aload_n 0, 1), (24, .iconst 2, 1), (25, .invokevirtual 210, 3), (28, .ireturn, 1), (29, .aload_n 0, 1), (30, .getfield 51, 3), (33, .invokevirtual 152, 3), (36, .iconst 4, 1), (37, .if_icmp .ge 9, 3), (40, .aload_n 0, 1), (41, .iconst 3, 1), (42, .invokevirtual 210, 3), (45, .ireturn, 1)]
theorem zhdX11_swallow_0 : dzC ztdX11_swallow_0 0 (cX11_swallow.data.toList.drop 0) = true := by decide +kernel
theorem dX11_swallow_0 : decode cX11_swallow 0 = .ok (.aload_n 0, 1) := dzr zhdX11_swallow_0 0 rfl
theorem dX11_swallow_1 : decode cX11_swallow 1 = .ok (.invokevirtual 146, 3) := dzr zhdX11_swallow_0 1 rfl
theorem dX11_swallow_4 : decode cX11_swallow 4 = .ok (.ifCond .eq 9, 3) := dzr zhdX11_swallow_0 2 rfl
theorem dX11_swallow_7 : decode cX11_swallow 7 = .ok (.aload_n 0, 1) := dzr zhdX11_swallow_0 3 rfl
theorem dX11_swallow_8 : decode cX11_swallow 8 = .ok (.iconst 0, 1) := dzr zhdX11_swallow_0 4 rfl
theorem dX11_swallow_9 : decode cX11_swallow 9 = .ok (.invokevirtual 210, 3) := dzr zhdX11_swallow_0 5 rfl
theorem dX11_swallow_12 : decode cX11_swallow 12 = .ok (.ireturn, 1) := dzr zhdX11_swallow_0 6 rfl
theorem dX11_swallow_13 : decode cX11_swallow 13 = .ok (.aload_n 0, 1) := dzr zhdX11_swallow_0 7 rfl
theorem dX11_swallow_14 : decode cX11_swallow 14 = .ok (.getfield 51, 3) := dzr zhdX11_swallow_0 8 rfl
theorem dX11_swallow_17 : decode cX11_swallow 17 = .ok (.invokevirtual 149, 3) := dzr zhdX11_swallow_0 9 rfl
theorem dX11_swallow_20 : decode cX11_swallow 20 = .ok (.ifCond .ne 9, 3) := dzr zhdX11_swallow_0 10 rfl
theorem dX11_swallow_23 : decode cX11_swallow 23 = .ok (.aload_n 0, 1) := dzr zhdX11_swallow_0 11 rfl
theorem dX11_swallow_24 : decode cX11_swallow 24 = .ok (.iconst 2, 1) := dzr zhdX11_swallow_0 12 rfl
theorem dX11_swallow_25 : decode cX11_swallow 25 = .ok (.invokevirtual 210, 3) := dzr zhdX11_swallow_0 13 rfl
theorem dX11_swallow_28 : decode cX11_swallow 28 = .ok (.ireturn, 1) := dzr zhdX11_swallow_0 14 rfl
theorem dX11_swallow_29 : decode cX11_swallow 29 = .ok (.aload_n 0, 1) := dzr zhdX11_swallow_0 15 rfl
theorem dX11_swallow_30 : decode cX11_swallow 30 = .ok (.getfield 51, 3) := dzr zhdX11_swallow_0 16 rfl
theorem dX11_swallow_33 : decode cX11_swallow 33 = .ok (.invokevirtual 152, 3) := dzr zhdX11_swallow_0 17 rfl
theorem dX11_swallow_36 : decode cX11_swallow 36 = .ok (.iconst 4, 1) := dzr zhdX11_swallow_0 18 rfl
theorem dX11_swallow_37 : decode cX11_swallow 37 = .ok (.if_icmp .ge 9, 3) := dzr zhdX11_swallow_0 19 rfl
theorem dX11_swallow_40 : decode cX11_swallow 40 = .ok (.aload_n 0, 1) := dzr zhdX11_swallow_0 20 rfl
theorem dX11_swallow_41 : decode cX11_swallow 41 = .ok (.iconst 3, 1) := dzr zhdX11_swallow_0 21 rfl
theorem dX11_swallow_42 : decode cX11_swallow 42 = .ok (.invokevirtual 210, 3) := dzr zhdX11_swallow_0 22 rfl
theorem dX11_swallow_45 : decode cX11_swallow 45 = .ok (.ireturn, 1) := dzr zhdX11_swallow_0 23 rfl
def ztdX11_swallow_46 : List (Nat × Instr × Nat) := [(46, .aload_n 0, 1), (47, .getfield 68, 3), (50, .aload_n 0, 1), (51, .getfield 51, 3), (54, .invokevirtual 213, 3), (57, .aload_n 0, 1), (58, .getfield 51, 3), (61, .iconst 4, 1), (62, .invokevirtual 217, 3), (65, .aload_n 0, 1), (66, .getfield 51, 3), (69, .aload_n 0, 1), (70, .getfield 51, 3), (73, .invokevirtual 149, 3), (76, .iconst 1, 1), (77, .isub, 1), (78, .invokevirtual 230, 3), (81, .aload_n 0, 1), (82, .getfield 51, 3), (85, .invokevirtual 149, 3), (88, .ireturn, 1)]
theorem zhdX11_swallow_46 : dzC ztdX11_swallow_46 46 (cX11_swallow.data.toList.drop 46) = true := by decide +kernel
theorem dX11_swallow_46 : decode cX11_swallow 46 = .ok (.aload_n 0, 1) := dzr zhdX11_swallow_46 0 rfl
theorem dX11_swallow_47 : decode cX11_swallow 47 = .ok (.getfield 68, 3) := dzr zhdX11_swallow_46 1 rfl
theorem dX11_swallow_50 : decode cX11_swallow 50 = .ok (.aload_n 0, 1) := dzr zhdX11_swallow_46 2 rfl
theorem dX11_swallow_51 : decode cX11_swallow 51 = .ok (.getfield 51, 3) := dzr zhdX11_swallow_46 3 rfl
theorem dX11_swallow_54 : decode cX11_swallow 54 = .ok (.invokevirtual 213, 3) := dzr zhdX11_swallow_46 4 rfl
theorem dX11_swallow_57 : decode cX11_swallow 57 = .ok (.aload_n 0, 1) := dzr zhdX11_swallow_46 5 rfl
theorem dX11_swallow_58 : decode cX11_swallow 58 = .ok (.getfield 51, 3) := dzr zhdX11_swallow_46 6 rfl
theorem dX11_swallow_61 : decode cX11_swallow 61 = .ok (.iconst 4, 1) := dzr zhdX11_swallow_46 7 rfl
theorem dX11_swallow_62 : decode cX11_swallow 62 = .ok (.invokevirtual 217, 3) := dzr zhdX11_swallow_46 8 rfl
theorem dX11_swallow_65 : decode cX11_swallow 65 = .ok (.aload_n 0, 1) := dzr zhdX11_swallow_46 9 rfl
theorem dX11_swallow_66 : decode cX11_swallow 66 = .ok (.getfield 51, 3) := dzr zhdX11_swallow_46 10 rfl
theorem dX11_swallow_69 : decode cX11_swallow 69 = .ok (.aload_n 0, 1) := dzr zhdX11_swallow_46 11 rfl
theorem dX11_swallow_70 : decode cX11_swallow 70 = .ok (.getfield 51, 3) := dzr zhdX11_swallow_46 12 rfl
theorem dX11_swallow_73 : decode cX11_swallow 73 = .ok (.invokevirtual 149, 3) := dzr zhdX11_swallow_46 13 rfl
theorem dX11_swallow_76 : decode cX11_swallow 76 = .ok (.iconst 1, 1) := dzr zhdX11_swallow_46 14 rfl
theorem dX11_swallow_77 : decode cX11_swallow 77 = .ok (.isub, 1) := dzr zhdX11_swallow_46 15 rfl
theorem dX11_swallow_78 : decode cX11_swallow 78 = .ok (.invokevirtual 230, 3) := dzr zhdX11_swallow_46 16 rfl
theorem dX11_swallow_81 : decode cX11_swallow 81 = .ok (.aload_n 0, 1) := dzr zhdX11_swallow_46 17 rfl
theorem dX11_swallow_82 : decode cX11_swallow 82 = .ok (.getfield 51, 3) := dzr zhdX11_swallow_46 18 rfl
theorem dX11_swallow_85 : decode cX11_swallow 85 = .ok (.invokevirtual 149, 3) := dzr zhdX11_swallow_46 19 rfl
theorem dX11_swallow_88 : decode cX11_swallow 88 = .ok (.ireturn, 1) := dzr zhdX11_swallow_46 20 rfl
theorem ggX11_tear_X5_hasMatter : GoodIn wsX11_tear wsX5_hasMatter := (bg_up (bg_law (bi_wsL_law0_r26 _ (List.mem_of_getElem? (i := 1) rfl))))
theorem gX11_tear_X5_hasMatter : GoodIn wsX11_tear (wsV RX11 184 RX5 yX5_hasMatter wsX5_hasMatter) := goodIn_app (bg_up (bg_cons (bi_wsL_law0_r25 _ (List.mem_of_getElem? (i := 22) rfl)) (bg_cons (bi_wsL_law0_r25 _ (List.mem_of_getElem? (i := 23) rfl)) (bg_cons (bi_wsL_law0_r26 _ (List.mem_of_getElem? (i := 0) rfl)) (bg_cons (bi_wsL_law0_r2 _ (List.mem_of_getElem? (i := 4) rfl)) bg_nil))))) (bg_up (bg_law (bi_wsL_law0_r26 _ (List.mem_of_getElem? (i := 1) rfl))))
theorem ggX11_tear_X11_refuse : GoodIn wsX11_tear wsX11_refuse := (bg_up (bg_law (bi_wsL_law0_r28 _ (List.mem_of_getElem? (i := 16) rfl))))
theorem gX11_tear_X11_refuse : GoodIn wsX11_tear (wsV RX11 210 RX11 yX11_refuse wsX11_refuse) := goodIn_app (bg_up (bg_cons (bi_wsL_law0_r28 _ (List.mem_of_getElem? (i := 13) rfl)) (bg_cons (bi_wsL_law0_r28 _ (List.mem_of_getElem? (i := 14) rfl)) (bg_cons (bi_wsL_law0_r28 _ (List.mem_of_getElem? (i := 15) rfl)) (bg_cons (bi_wsL_law0_r1 _ (List.mem_of_getElem? (i := 2) rfl)) bg_nil))))) (bg_up (bg_law (bi_wsL_law0_r28 _ (List.mem_of_getElem? (i := 16) rfl))))
theorem ggX11_tear_X9_signers : GoodIn wsX11_tear wsX9_signers := (bg_up (bg_law (bi_wsL_law0_r26 _ (List.mem_of_getElem? (i := 5) rfl))))
theorem gX11_tear_X9_signers : GoodIn wsX11_tear (wsV RX11 187 RX9 yX9_signers wsX9_signers) := goodIn_app (bg_up (bg_cons (bi_wsL_law0_r26 _ (List.mem_of_getElem? (i := 2) rfl)) (bg_cons (bi_wsL_law0_r26 _ (List.mem_of_getElem? (i := 3) rfl)) (bg_cons (bi_wsL_law0_r26 _ (List.mem_of_getElem? (i := 4) rfl)) (bg_cons (bi_wsL_law0_r2 _ (List.mem_of_getElem? (i := 12) rfl)) bg_nil))))) (bg_up (bg_law (bi_wsL_law0_r26 _ (List.mem_of_getElem? (i := 5) rfl))))
theorem ggX11_tear_X0_keep : GoodIn wsX11_tear wsX0_keep := (bg_up (bg_law (bi_wsL_law0_r28 _ (List.mem_of_getElem? (i := 20) rfl))))
theorem gX11_tear_X0_keep : GoodIn wsX11_tear (wsV RX11 213 RX0 yX0_keep wsX0_keep) := goodIn_app (bg_up (bg_cons (bi_wsL_law0_r28 _ (List.mem_of_getElem? (i := 17) rfl)) (bg_cons (bi_wsL_law0_r28 _ (List.mem_of_getElem? (i := 18) rfl)) (bg_cons (bi_wsL_law0_r28 _ (List.mem_of_getElem? (i := 19) rfl)) (bg_cons (bi_wsL_law0_r2 _ (List.mem_of_getElem? (i := 21) rfl)) bg_nil))))) (bg_up (bg_law (bi_wsL_law0_r28 _ (List.mem_of_getElem? (i := 20) rfl))))
theorem ggX11_tear_X9_tearUp : GoodIn wsX11_tear wsX9_tearUp := (bg_up (bg_law (bi_wsL_law0_r35 _ (List.mem_of_getElem? (i := 22) rfl))))
theorem gX11_tear_X9_tearUp : GoodIn wsX11_tear (wsV RX11 233 RX9 yX9_tearUp wsX9_tearUp) := goodIn_app (bg_up (bg_cons (bi_wsL_law0_r35 _ (List.mem_of_getElem? (i := 19) rfl)) (bg_cons (bi_wsL_law0_r35 _ (List.mem_of_getElem? (i := 20) rfl)) (bg_cons (bi_wsL_law0_r35 _ (List.mem_of_getElem? (i := 21) rfl)) (bg_cons (bi_wsL_law0_r2 _ (List.mem_of_getElem? (i := 12) rfl)) bg_nil))))) (bg_up (bg_law (bi_wsL_law0_r35 _ (List.mem_of_getElem? (i := 22) rfl))))
theorem ggX11_tear_X9_growProud : GoodIn wsX11_tear wsX9_growProud := (bg_up (bg_law (bi_wsL_law0_r36 _ (List.mem_of_getElem? (i := 2) rfl))))
theorem gX11_tear_X9_growProud : GoodIn wsX11_tear (wsV RX11 236 RX9 yX9_growProud wsX9_growProud) := goodIn_app (bg_up (bg_cons (bi_wsL_law0_r35 _ (List.mem_of_getElem? (i := 23) rfl)) (bg_cons (bi_wsL_law0_r36 _ (List.mem_of_getElem? (i := 0) rfl)) (bg_cons (bi_wsL_law0_r36 _ (List.mem_of_getElem? (i := 1) rfl)) (bg_cons (bi_wsL_law0_r2 _ (List.mem_of_getElem? (i := 12) rfl)) bg_nil))))) (bg_up (bg_law (bi_wsL_law0_r36 _ (List.mem_of_getElem? (i := 2) rfl))))
theorem ggX11_tear_X9_pride : GoodIn wsX11_tear wsX9_pride := (bg_up (bg_law (bi_wsL_law0_r23 _ (List.mem_of_getElem? (i := 9) rfl))))
theorem gX11_tear_X9_pride : GoodIn wsX11_tear (wsV RX11 149 RX9 yX9_pride wsX9_pride) := goodIn_app (bg_up (bg_cons (bi_wsL_law0_r23 _ (List.mem_of_getElem? (i := 6) rfl)) (bg_cons (bi_wsL_law0_r23 _ (List.mem_of_getElem? (i := 7) rfl)) (bg_cons (bi_wsL_law0_r23 _ (List.mem_of_getElem? (i := 8) rfl)) (bg_cons (bi_wsL_law0_r2 _ (List.mem_of_getElem? (i := 12) rfl)) bg_nil))))) (bg_up (bg_law (bi_wsL_law0_r23 _ (List.mem_of_getElem? (i := 9) rfl))))
def ztdX11_tear_0 : List (Nat × Instr × Nat) := [(0, .aload_n 0, 1), (1, .getfield 35, 3), (4, .iload_n 1, 1), (5, .invokevirtual 184, 3), (8, .ifCond .ne 9, 3), (11, .aload_n 0, 1), (12, .iconst 0, 1), (13, .invokevirtual 210, 3), (16, .ireturn, 1), (17, .aload_n 0, 1), (18, .getfield 51, 3), (21, .iload_n 1, 1), (22, .invokevirtual 187, 3), (25, .iconst (-1), 1), (26, .if_icmp .ne 9, 3), (29, .aload_n 0, 1), (30, .iconst 2, 1), (31, .invokevirtual 210, 3), (34, .ireturn, 1), (35, .aload_n 0, 1), (36, .getfield 68, 3), (39, .aload_n 0, 1), (40, .getfield 51, 3), (43, .invokevirtual 213, 3)]
theorem zhdX11_tear_0 : dzC ztdX11_tear_0 0 (cX11_tear.data.toList.drop 0) = true := by decide +kernel
theorem dX11_tear_0 : decode cX11_tear 0 = .ok (.aload_n 0, 1) := dzr zhdX11_tear_0 0 rfl
theorem dX11_tear_1 : decode cX11_tear 1 = .ok (.getfield 35, 3) := dzr zhdX11_tear_0 1 rfl
theorem dX11_tear_4 : decode cX11_tear 4 = .ok (.iload_n 1, 1) := dzr zhdX11_tear_0 2 rfl
theorem dX11_tear_5 : decode cX11_tear 5 = .ok (.invokevirtual 184, 3) := dzr zhdX11_tear_0 3 rfl
theorem dX11_tear_8 : decode cX11_tear 8 = .ok (.ifCond .ne 9, 3) := dzr zhdX11_tear_0 4 rfl
theorem dX11_tear_11 : decode cX11_tear 11 = .ok (.aload_n 0, 1) := dzr zhdX11_tear_0 5 rfl
theorem dX11_tear_12 : decode cX11_tear 12 = .ok (.iconst 0, 1) := dzr zhdX11_tear_0 6 rfl
theorem dX11_tear_13 : decode cX11_tear 13 = .ok (.invokevirtual 210, 3) := dzr zhdX11_tear_0 7 rfl
theorem dX11_tear_16 : decode cX11_tear 16 = .ok (.ireturn, 1) := dzr zhdX11_tear_0 8 rfl
theorem dX11_tear_17 : decode cX11_tear 17 = .ok (.aload_n 0, 1) := dzr zhdX11_tear_0 9 rfl
theorem dX11_tear_18 : decode cX11_tear 18 = .ok (.getfield 51, 3) := dzr zhdX11_tear_0 10 rfl
theorem dX11_tear_21 : decode cX11_tear 21 = .ok (.iload_n 1, 1) := dzr zhdX11_tear_0 11 rfl
theorem dX11_tear_22 : decode cX11_tear 22 = .ok (.invokevirtual 187, 3) := dzr zhdX11_tear_0 12 rfl
theorem dX11_tear_25 : decode cX11_tear 25 = .ok (.iconst (-1), 1) := dzr zhdX11_tear_0 13 rfl
theorem dX11_tear_26 : decode cX11_tear 26 = .ok (.if_icmp .ne 9, 3) := dzr zhdX11_tear_0 14 rfl
theorem dX11_tear_29 : decode cX11_tear 29 = .ok (.aload_n 0, 1) := dzr zhdX11_tear_0 15 rfl
theorem dX11_tear_30 : decode cX11_tear 30 = .ok (.iconst 2, 1) := dzr zhdX11_tear_0 16 rfl
theorem dX11_tear_31 : decode cX11_tear 31 = .ok (.invokevirtual 210, 3) := dzr zhdX11_tear_0 17 rfl
theorem dX11_tear_34 : decode cX11_tear 34 = .ok (.ireturn, 1) := dzr zhdX11_tear_0 18 rfl
theorem dX11_tear_35 : decode cX11_tear 35 = .ok (.aload_n 0, 1) := dzr zhdX11_tear_0 19 rfl
theorem dX11_tear_36 : decode cX11_tear 36 = .ok (.getfield 68, 3) := dzr zhdX11_tear_0 20 rfl
theorem dX11_tear_39 : decode cX11_tear 39 = .ok (.aload_n 0, 1) := dzr zhdX11_tear_0 21 rfl
theorem dX11_tear_40 : decode cX11_tear 40 = .ok (.getfield 51, 3) := dzr zhdX11_tear_0 22 rfl
theorem dX11_tear_43 : decode cX11_tear 43 = .ok (.invokevirtual 213, 3) := dzr zhdX11_tear_0 23 rfl
def ztdX11_tear_46 : List (Nat × Instr × Nat) := [(46, .aload_n 0, 1), (47, .getfield 51, 3), (50, .iload_n 1, 1), (51, .invokevirtual 233, 3), (54, .aload_n 0, 1), (55, .getfield 51, 3), (58, .invokevirtual 236, 3), (61, .aload_n 0, 1), (62, .getfield 51, 3), (65, .invokevirtual 149, 3), (68, .ireturn, 1)]
theorem zhdX11_tear_46 : dzC ztdX11_tear_46 46 (cX11_tear.data.toList.drop 46) = true := by decide +kernel
theorem dX11_tear_46 : decode cX11_tear 46 = .ok (.aload_n 0, 1) := dzr zhdX11_tear_46 0 rfl
theorem dX11_tear_47 : decode cX11_tear 47 = .ok (.getfield 51, 3) := dzr zhdX11_tear_46 1 rfl
theorem dX11_tear_50 : decode cX11_tear 50 = .ok (.iload_n 1, 1) := dzr zhdX11_tear_46 2 rfl
theorem dX11_tear_51 : decode cX11_tear 51 = .ok (.invokevirtual 233, 3) := dzr zhdX11_tear_46 3 rfl
theorem dX11_tear_54 : decode cX11_tear 54 = .ok (.aload_n 0, 1) := dzr zhdX11_tear_46 4 rfl
theorem dX11_tear_55 : decode cX11_tear 55 = .ok (.getfield 51, 3) := dzr zhdX11_tear_46 5 rfl
theorem dX11_tear_58 : decode cX11_tear 58 = .ok (.invokevirtual 236, 3) := dzr zhdX11_tear_46 6 rfl
theorem dX11_tear_61 : decode cX11_tear 61 = .ok (.aload_n 0, 1) := dzr zhdX11_tear_46 7 rfl
theorem dX11_tear_62 : decode cX11_tear 62 = .ok (.getfield 51, 3) := dzr zhdX11_tear_46 8 rfl
theorem dX11_tear_65 : decode cX11_tear 65 = .ok (.invokevirtual 149, 3) := dzr zhdX11_tear_46 9 rfl
theorem dX11_tear_68 : decode cX11_tear 68 = .ok (.ireturn, 1) := dzr zhdX11_tear_46 10 rfl
theorem ggX11_give_X11_noPeace : GoodIn wsX11_give wsX11_noPeace := (bg_up (bg_law (bi_wsL_law0_r23 _ (List.mem_of_getElem? (i := 5) rfl))))
theorem gX11_give_X11_noPeace : GoodIn wsX11_give (wsV RX11 146 RX11 yX11_noPeace wsX11_noPeace) := goodIn_app (bg_up (bg_cons (bi_wsL_law0_r23 _ (List.mem_of_getElem? (i := 2) rfl)) (bg_cons (bi_wsL_law0_r23 _ (List.mem_of_getElem? (i := 3) rfl)) (bg_cons (bi_wsL_law0_r23 _ (List.mem_of_getElem? (i := 4) rfl)) (bg_cons (bi_wsL_law0_r1 _ (List.mem_of_getElem? (i := 2) rfl)) bg_nil))))) (bg_up (bg_law (bi_wsL_law0_r23 _ (List.mem_of_getElem? (i := 5) rfl))))
theorem ggX11_give_X11_refuse : GoodIn wsX11_give wsX11_refuse := (bg_up (bg_law (bi_wsL_law0_r28 _ (List.mem_of_getElem? (i := 16) rfl))))
theorem gX11_give_X11_refuse : GoodIn wsX11_give (wsV RX11 210 RX11 yX11_refuse wsX11_refuse) := goodIn_app (bg_up (bg_cons (bi_wsL_law0_r28 _ (List.mem_of_getElem? (i := 13) rfl)) (bg_cons (bi_wsL_law0_r28 _ (List.mem_of_getElem? (i := 14) rfl)) (bg_cons (bi_wsL_law0_r28 _ (List.mem_of_getElem? (i := 15) rfl)) (bg_cons (bi_wsL_law0_r1 _ (List.mem_of_getElem? (i := 2) rfl)) bg_nil))))) (bg_up (bg_law (bi_wsL_law0_r28 _ (List.mem_of_getElem? (i := 16) rfl))))
theorem ggX11_give_X9_coins : GoodIn wsX11_give wsX9_coins := (bg_up (bg_law (bi_wsL_law0_r23 _ (List.mem_of_getElem? (i := 13) rfl))))
theorem gX11_give_X9_coins : GoodIn wsX11_give (wsV RX11 152 RX9 yX9_coins wsX9_coins) := goodIn_app (bg_up (bg_cons (bi_wsL_law0_r23 _ (List.mem_of_getElem? (i := 10) rfl)) (bg_cons (bi_wsL_law0_r23 _ (List.mem_of_getElem? (i := 11) rfl)) (bg_cons (bi_wsL_law0_r23 _ (List.mem_of_getElem? (i := 12) rfl)) (bg_cons (bi_wsL_law0_r2 _ (List.mem_of_getElem? (i := 12) rfl)) bg_nil))))) (bg_up (bg_law (bi_wsL_law0_r23 _ (List.mem_of_getElem? (i := 13) rfl))))
theorem ggX11_give_X0_keep : GoodIn wsX11_give wsX0_keep := (bg_up (bg_law (bi_wsL_law0_r28 _ (List.mem_of_getElem? (i := 20) rfl))))
theorem gX11_give_X0_keep : GoodIn wsX11_give (wsV RX11 213 RX0 yX0_keep wsX0_keep) := goodIn_app (bg_up (bg_cons (bi_wsL_law0_r28 _ (List.mem_of_getElem? (i := 17) rfl)) (bg_cons (bi_wsL_law0_r28 _ (List.mem_of_getElem? (i := 18) rfl)) (bg_cons (bi_wsL_law0_r28 _ (List.mem_of_getElem? (i := 19) rfl)) (bg_cons (bi_wsL_law0_r2 _ (List.mem_of_getElem? (i := 21) rfl)) bg_nil))))) (bg_up (bg_law (bi_wsL_law0_r28 _ (List.mem_of_getElem? (i := 20) rfl))))
theorem ggX11_give_X9_pay : GoodIn wsX11_give wsX9_pay := (bg_up (bg_law (bi_wsL_law0_r29 _ (List.mem_of_getElem? (i := 4) rfl))))
theorem gX11_give_X9_pay : GoodIn wsX11_give (wsV RX11 217 RX9 yX9_pay wsX9_pay) := goodIn_app (bg_up (bg_cons (bi_wsL_law0_r29 _ (List.mem_of_getElem? (i := 1) rfl)) (bg_cons (bi_wsL_law0_r29 _ (List.mem_of_getElem? (i := 2) rfl)) (bg_cons (bi_wsL_law0_r29 _ (List.mem_of_getElem? (i := 3) rfl)) (bg_cons (bi_wsL_law0_r2 _ (List.mem_of_getElem? (i := 12) rfl)) bg_nil))))) (bg_up (bg_law (bi_wsL_law0_r29 _ (List.mem_of_getElem? (i := 4) rfl))))
def ztdX11_give_0 : List (Nat × Instr × Nat) := [(0, .aload_n 0, 1), (1, .invokevirtual 146, 3), (4, .ifCond .eq 9, 3), (7, .aload_n 0, 1), (8, .iconst 0, 1), (9, .invokevirtual 210, 3), (12, .ireturn, 1), (13, .iload_n 1, 1), (14, .iconst 1, 1), (15, .if_icmp .lt 24, 3), (18, .iload_n 1, 1), (19, .bipush 50, 2), (21, .if_icmp .gt 18, 3), (24, .aload_n 0, 1), (25, .getfield 51, 3), (28, .invokevirtual 152, 3), (31, .iload_n 1, 1), (32, .iadd, 1), (33, .sipush 999, 3), (36, .if_icmp .le 9, 3), (39, .aload_n 0, 1), (40, .iconst 1, 1), (41, .invokevirtual 210, 3), (44, .ireturn, 1)]
theorem zhdX11_give_0 : dzC ztdX11_give_0 0 (cX11_give.data.toList.drop 0) = true := by decide +kernel
theorem dX11_give_0 : decode cX11_give 0 = .ok (.aload_n 0, 1) := dzr zhdX11_give_0 0 rfl
theorem dX11_give_1 : decode cX11_give 1 = .ok (.invokevirtual 146, 3) := dzr zhdX11_give_0 1 rfl
theorem dX11_give_4 : decode cX11_give 4 = .ok (.ifCond .eq 9, 3) := dzr zhdX11_give_0 2 rfl
theorem dX11_give_7 : decode cX11_give 7 = .ok (.aload_n 0, 1) := dzr zhdX11_give_0 3 rfl
theorem dX11_give_8 : decode cX11_give 8 = .ok (.iconst 0, 1) := dzr zhdX11_give_0 4 rfl
theorem dX11_give_9 : decode cX11_give 9 = .ok (.invokevirtual 210, 3) := dzr zhdX11_give_0 5 rfl
theorem dX11_give_12 : decode cX11_give 12 = .ok (.ireturn, 1) := dzr zhdX11_give_0 6 rfl
theorem dX11_give_13 : decode cX11_give 13 = .ok (.iload_n 1, 1) := dzr zhdX11_give_0 7 rfl
theorem dX11_give_14 : decode cX11_give 14 = .ok (.iconst 1, 1) := dzr zhdX11_give_0 8 rfl
theorem dX11_give_15 : decode cX11_give 15 = .ok (.if_icmp .lt 24, 3) := dzr zhdX11_give_0 9 rfl
theorem dX11_give_18 : decode cX11_give 18 = .ok (.iload_n 1, 1) := dzr zhdX11_give_0 10 rfl
theorem dX11_give_19 : decode cX11_give 19 = .ok (.bipush 50, 2) := dzr zhdX11_give_0 11 rfl
theorem dX11_give_21 : decode cX11_give 21 = .ok (.if_icmp .gt 18, 3) := dzr zhdX11_give_0 12 rfl
theorem dX11_give_24 : decode cX11_give 24 = .ok (.aload_n 0, 1) := dzr zhdX11_give_0 13 rfl
theorem dX11_give_25 : decode cX11_give 25 = .ok (.getfield 51, 3) := dzr zhdX11_give_0 14 rfl
theorem dX11_give_28 : decode cX11_give 28 = .ok (.invokevirtual 152, 3) := dzr zhdX11_give_0 15 rfl
theorem dX11_give_31 : decode cX11_give 31 = .ok (.iload_n 1, 1) := dzr zhdX11_give_0 16 rfl
theorem dX11_give_32 : decode cX11_give 32 = .ok (.iadd, 1) := dzr zhdX11_give_0 17 rfl
theorem dX11_give_33 : decode cX11_give 33 = .ok (.sipush 999, 3) := dzr zhdX11_give_0 18 rfl
theorem dX11_give_36 : decode cX11_give 36 = .ok (.if_icmp .le 9, 3) := dzr zhdX11_give_0 19 rfl
theorem dX11_give_39 : decode cX11_give 39 = .ok (.aload_n 0, 1) := dzr zhdX11_give_0 20 rfl
theorem dX11_give_40 : decode cX11_give 40 = .ok (.iconst 1, 1) := dzr zhdX11_give_0 21 rfl
theorem dX11_give_41 : decode cX11_give 41 = .ok (.invokevirtual 210, 3) := dzr zhdX11_give_0 22 rfl
theorem dX11_give_44 : decode cX11_give 44 = .ok (.ireturn, 1) := dzr zhdX11_give_0 23 rfl
def ztdX11_give_45 : List (Nat × Instr × Nat) := [(45, .aload_n 0, 1), (46, .getfield 68, 3), (49, .aload_n 0, 1), (50, .getfield 51, 3), (53, .invokevirtual 213, 3), (56, .aload_n 0, 1), (57, .getfield 51, 3), (60, .iload_n 1, 1), (61, .ineg, 1), (62, .invokevirtual 217, 3), (65, .aload_n 0, 1), (66, .getfield 51, 3), (69, .invokevirtual 152, 3), (72, .ireturn, 1)]
theorem zhdX11_give_45 : dzC ztdX11_give_45 45 (cX11_give.data.toList.drop 45) = true := by decide +kernel
theorem dX11_give_45 : decode cX11_give 45 = .ok (.aload_n 0, 1) := dzr zhdX11_give_45 0 rfl
theorem dX11_give_46 : decode cX11_give 46 = .ok (.getfield 68, 3) := dzr zhdX11_give_45 1 rfl
theorem dX11_give_49 : decode cX11_give 49 = .ok (.aload_n 0, 1) := dzr zhdX11_give_45 2 rfl
theorem dX11_give_50 : decode cX11_give 50 = .ok (.getfield 51, 3) := dzr zhdX11_give_45 3 rfl
theorem dX11_give_53 : decode cX11_give 53 = .ok (.invokevirtual 213, 3) := dzr zhdX11_give_45 4 rfl
theorem dX11_give_56 : decode cX11_give 56 = .ok (.aload_n 0, 1) := dzr zhdX11_give_45 5 rfl
theorem dX11_give_57 : decode cX11_give 57 = .ok (.getfield 51, 3) := dzr zhdX11_give_45 6 rfl
theorem dX11_give_60 : decode cX11_give 60 = .ok (.iload_n 1, 1) := dzr zhdX11_give_45 7 rfl
theorem dX11_give_61 : decode cX11_give 61 = .ok (.ineg, 1) := dzr zhdX11_give_45 8 rfl
theorem dX11_give_62 : decode cX11_give 62 = .ok (.invokevirtual 217, 3) := dzr zhdX11_give_45 9 rfl
theorem dX11_give_65 : decode cX11_give 65 = .ok (.aload_n 0, 1) := dzr zhdX11_give_45 10 rfl
theorem dX11_give_66 : decode cX11_give 66 = .ok (.getfield 51, 3) := dzr zhdX11_give_45 11 rfl
theorem dX11_give_69 : decode cX11_give 69 = .ok (.invokevirtual 152, 3) := dzr zhdX11_give_45 12 rfl
theorem dX11_give_72 : decode cX11_give 72 = .ok (.ireturn, 1) := dzr zhdX11_give_45 13 rfl
theorem ggX11_days_X11_noPeace : GoodIn wsX11_days wsX11_noPeace := (bg_up (bg_law (bi_wsL_law0_r23 _ (List.mem_of_getElem? (i := 5) rfl))))
theorem gX11_days_X11_noPeace : GoodIn wsX11_days (wsV RX11 146 RX11 yX11_noPeace wsX11_noPeace) := goodIn_app (bg_up (bg_cons (bi_wsL_law0_r23 _ (List.mem_of_getElem? (i := 2) rfl)) (bg_cons (bi_wsL_law0_r23 _ (List.mem_of_getElem? (i := 3) rfl)) (bg_cons (bi_wsL_law0_r23 _ (List.mem_of_getElem? (i := 4) rfl)) (bg_cons (bi_wsL_law0_r1 _ (List.mem_of_getElem? (i := 2) rfl)) bg_nil))))) (bg_up (bg_law (bi_wsL_law0_r23 _ (List.mem_of_getElem? (i := 5) rfl))))
theorem ggX11_days_X11_refuse : GoodIn wsX11_days wsX11_refuse := (bg_up (bg_law (bi_wsL_law0_r28 _ (List.mem_of_getElem? (i := 16) rfl))))
theorem gX11_days_X11_refuse : GoodIn wsX11_days (wsV RX11 210 RX11 yX11_refuse wsX11_refuse) := goodIn_app (bg_up (bg_cons (bi_wsL_law0_r28 _ (List.mem_of_getElem? (i := 13) rfl)) (bg_cons (bi_wsL_law0_r28 _ (List.mem_of_getElem? (i := 14) rfl)) (bg_cons (bi_wsL_law0_r28 _ (List.mem_of_getElem? (i := 15) rfl)) (bg_cons (bi_wsL_law0_r1 _ (List.mem_of_getElem? (i := 2) rfl)) bg_nil))))) (bg_up (bg_law (bi_wsL_law0_r28 _ (List.mem_of_getElem? (i := 16) rfl))))
theorem ggX11_days_X9_day : GoodIn wsX11_days wsX9_day := (bg_up (bg_law (bi_wsL_law0_r29 _ (List.mem_of_getElem? (i := 19) rfl))))
theorem gX11_days_X9_day : GoodIn wsX11_days (wsV RX11 239 RX9 yX9_day wsX9_day) := goodIn_app (bg_up (bg_cons (bi_wsL_law0_r36 _ (List.mem_of_getElem? (i := 19) rfl)) (bg_cons (bi_wsL_law0_r29 _ (List.mem_of_getElem? (i := 17) rfl)) (bg_cons (bi_wsL_law0_r29 _ (List.mem_of_getElem? (i := 18) rfl)) (bg_cons (bi_wsL_law0_r2 _ (List.mem_of_getElem? (i := 12) rfl)) bg_nil))))) (bg_up (bg_law (bi_wsL_law0_r29 _ (List.mem_of_getElem? (i := 19) rfl))))
theorem ggX11_days_X0_keep : GoodIn wsX11_days wsX0_keep := (bg_up (bg_law (bi_wsL_law0_r28 _ (List.mem_of_getElem? (i := 20) rfl))))
theorem gX11_days_X0_keep : GoodIn wsX11_days (wsV RX11 213 RX0 yX0_keep wsX0_keep) := goodIn_app (bg_up (bg_cons (bi_wsL_law0_r28 _ (List.mem_of_getElem? (i := 17) rfl)) (bg_cons (bi_wsL_law0_r28 _ (List.mem_of_getElem? (i := 18) rfl)) (bg_cons (bi_wsL_law0_r28 _ (List.mem_of_getElem? (i := 19) rfl)) (bg_cons (bi_wsL_law0_r2 _ (List.mem_of_getElem? (i := 21) rfl)) bg_nil))))) (bg_up (bg_law (bi_wsL_law0_r28 _ (List.mem_of_getElem? (i := 20) rfl))))
theorem ggX11_days_X11_passDay : GoodIn wsX11_days wsX11_passDay := (bg_up (bg_law (bi_wsL_law0_r36 _ (List.mem_of_getElem? (i := 23) rfl))))
theorem gX11_days_X11_passDay : GoodIn wsX11_days (wsV RX11 242 RX11 yX11_passDay wsX11_passDay) := goodIn_app (bg_up (bg_cons (bi_wsL_law0_r36 _ (List.mem_of_getElem? (i := 20) rfl)) (bg_cons (bi_wsL_law0_r36 _ (List.mem_of_getElem? (i := 21) rfl)) (bg_cons (bi_wsL_law0_r36 _ (List.mem_of_getElem? (i := 22) rfl)) (bg_cons (bi_wsL_law0_r1 _ (List.mem_of_getElem? (i := 2) rfl)) bg_nil))))) (bg_up (bg_law (bi_wsL_law0_r36 _ (List.mem_of_getElem? (i := 23) rfl))))
def ztdX11_days_0 : List (Nat × Instr × Nat) := [(0, .aload_n 0, 1), (1, .invokevirtual 146, 3), (4, .ifCond .eq 9, 3), (7, .aload_n 0, 1), (8, .iconst 0, 1), (9, .invokevirtual 210, 3), (12, .ireturn, 1), (13, .iload_n 1, 1), (14, .iconst 1, 1), (15, .if_icmp .lt 9, 3), (18, .iload_n 1, 1), (19, .bipush 60, 2), (21, .if_icmp .le 9, 3), (24, .aload_n 0, 1), (25, .iconst 1, 1), (26, .invokevirtual 210, 3), (29, .ireturn, 1), (30, .aload_n 0, 1), (31, .getfield 51, 3), (34, .invokevirtual 239, 3), (37, .iload_n 1, 1), (38, .iadd, 1), (39, .sipush 999, 3), (42, .if_icmp .le 9, 3)]
theorem zhdX11_days_0 : dzC ztdX11_days_0 0 (cX11_days.data.toList.drop 0) = true := by decide +kernel
theorem dX11_days_0 : decode cX11_days 0 = .ok (.aload_n 0, 1) := dzr zhdX11_days_0 0 rfl
theorem dX11_days_1 : decode cX11_days 1 = .ok (.invokevirtual 146, 3) := dzr zhdX11_days_0 1 rfl
theorem dX11_days_4 : decode cX11_days 4 = .ok (.ifCond .eq 9, 3) := dzr zhdX11_days_0 2 rfl
theorem dX11_days_7 : decode cX11_days 7 = .ok (.aload_n 0, 1) := dzr zhdX11_days_0 3 rfl
theorem dX11_days_8 : decode cX11_days 8 = .ok (.iconst 0, 1) := dzr zhdX11_days_0 4 rfl
theorem dX11_days_9 : decode cX11_days 9 = .ok (.invokevirtual 210, 3) := dzr zhdX11_days_0 5 rfl
theorem dX11_days_12 : decode cX11_days 12 = .ok (.ireturn, 1) := dzr zhdX11_days_0 6 rfl
theorem dX11_days_13 : decode cX11_days 13 = .ok (.iload_n 1, 1) := dzr zhdX11_days_0 7 rfl
theorem dX11_days_14 : decode cX11_days 14 = .ok (.iconst 1, 1) := dzr zhdX11_days_0 8 rfl
theorem dX11_days_15 : decode cX11_days 15 = .ok (.if_icmp .lt 9, 3) := dzr zhdX11_days_0 9 rfl
theorem dX11_days_18 : decode cX11_days 18 = .ok (.iload_n 1, 1) := dzr zhdX11_days_0 10 rfl
theorem dX11_days_19 : decode cX11_days 19 = .ok (.bipush 60, 2) := dzr zhdX11_days_0 11 rfl
theorem dX11_days_21 : decode cX11_days 21 = .ok (.if_icmp .le 9, 3) := dzr zhdX11_days_0 12 rfl
theorem dX11_days_24 : decode cX11_days 24 = .ok (.aload_n 0, 1) := dzr zhdX11_days_0 13 rfl
theorem dX11_days_25 : decode cX11_days 25 = .ok (.iconst 1, 1) := dzr zhdX11_days_0 14 rfl
theorem dX11_days_26 : decode cX11_days 26 = .ok (.invokevirtual 210, 3) := dzr zhdX11_days_0 15 rfl
theorem dX11_days_29 : decode cX11_days 29 = .ok (.ireturn, 1) := dzr zhdX11_days_0 16 rfl
theorem dX11_days_30 : decode cX11_days 30 = .ok (.aload_n 0, 1) := dzr zhdX11_days_0 17 rfl
theorem dX11_days_31 : decode cX11_days 31 = .ok (.getfield 51, 3) := dzr zhdX11_days_0 18 rfl
theorem dX11_days_34 : decode cX11_days 34 = .ok (.invokevirtual 239, 3) := dzr zhdX11_days_0 19 rfl
theorem dX11_days_37 : decode cX11_days 37 = .ok (.iload_n 1, 1) := dzr zhdX11_days_0 20 rfl
theorem dX11_days_38 : decode cX11_days 38 = .ok (.iadd, 1) := dzr zhdX11_days_0 21 rfl
theorem dX11_days_39 : decode cX11_days 39 = .ok (.sipush 999, 3) := dzr zhdX11_days_0 22 rfl
theorem dX11_days_42 : decode cX11_days 42 = .ok (.if_icmp .le 9, 3) := dzr zhdX11_days_0 23 rfl
def ztdX11_days_45 : List (Nat × Instr × Nat) := [(45, .aload_n 0, 1), (46, .iconst 4, 1), (47, .invokevirtual 210, 3), (50, .ireturn, 1), (51, .iconst 0, 1), (52, .istore_n 2, 1), (53, .iload_n 2, 1), (54, .iload_n 1, 1), (55, .if_icmp .ge 24, 3), (58, .aload_n 0, 1), (59, .getfield 68, 3), (62, .aload_n 0, 1), (63, .getfield 51, 3), (66, .invokevirtual 213, 3), (69, .aload_n 0, 1), (70, .invokevirtual 242, 3), (73, .iinc 2 1, 3), (76, .goto (-23), 3), (79, .aload_n 0, 1), (80, .getfield 51, 3), (83, .invokevirtual 239, 3), (86, .ireturn, 1)]
theorem zhdX11_days_45 : dzC ztdX11_days_45 45 (cX11_days.data.toList.drop 45) = true := by decide +kernel
theorem dX11_days_45 : decode cX11_days 45 = .ok (.aload_n 0, 1) := dzr zhdX11_days_45 0 rfl
theorem dX11_days_46 : decode cX11_days 46 = .ok (.iconst 4, 1) := dzr zhdX11_days_45 1 rfl
theorem dX11_days_47 : decode cX11_days 47 = .ok (.invokevirtual 210, 3) := dzr zhdX11_days_45 2 rfl
theorem dX11_days_50 : decode cX11_days 50 = .ok (.ireturn, 1) := dzr zhdX11_days_45 3 rfl
theorem dX11_days_51 : decode cX11_days 51 = .ok (.iconst 0, 1) := dzr zhdX11_days_45 4 rfl
theorem dX11_days_52 : decode cX11_days 52 = .ok (.istore_n 2, 1) := dzr zhdX11_days_45 5 rfl
theorem dX11_days_53 : decode cX11_days 53 = .ok (.iload_n 2, 1) := dzr zhdX11_days_45 6 rfl
theorem dX11_days_54 : decode cX11_days 54 = .ok (.iload_n 1, 1) := dzr zhdX11_days_45 7 rfl
theorem dX11_days_55 : decode cX11_days 55 = .ok (.if_icmp .ge 24, 3) := dzr zhdX11_days_45 8 rfl
theorem dX11_days_58 : decode cX11_days 58 = .ok (.aload_n 0, 1) := dzr zhdX11_days_45 9 rfl
theorem dX11_days_59 : decode cX11_days 59 = .ok (.getfield 68, 3) := dzr zhdX11_days_45 10 rfl
theorem dX11_days_62 : decode cX11_days 62 = .ok (.aload_n 0, 1) := dzr zhdX11_days_45 11 rfl
theorem dX11_days_63 : decode cX11_days 63 = .ok (.getfield 51, 3) := dzr zhdX11_days_45 12 rfl
theorem dX11_days_66 : decode cX11_days 66 = .ok (.invokevirtual 213, 3) := dzr zhdX11_days_45 13 rfl
theorem dX11_days_69 : decode cX11_days 69 = .ok (.aload_n 0, 1) := dzr zhdX11_days_45 14 rfl
theorem dX11_days_70 : decode cX11_days 70 = .ok (.invokevirtual 242, 3) := dzr zhdX11_days_45 15 rfl
theorem dX11_days_73 : decode cX11_days 73 = .ok (.iinc 2 1, 3) := dzr zhdX11_days_45 16 rfl
theorem dX11_days_76 : decode cX11_days 76 = .ok (.goto (-23), 3) := dzr zhdX11_days_45 17 rfl
theorem dX11_days_79 : decode cX11_days 79 = .ok (.aload_n 0, 1) := dzr zhdX11_days_45 18 rfl
theorem dX11_days_80 : decode cX11_days 80 = .ok (.getfield 51, 3) := dzr zhdX11_days_45 19 rfl
theorem dX11_days_83 : decode cX11_days 83 = .ok (.invokevirtual 239, 3) := dzr zhdX11_days_45 20 rfl
theorem dX11_days_86 : decode cX11_days 86 = .ok (.ireturn, 1) := dzr zhdX11_days_45 21 rfl
def ztdX11_spite_0 : List (Nat × Instr × Nat) := [(0, .iload_n 1, 1), (1, .ifCond .lt 17, 3), (4, .iload_n 1, 1), (5, .bipush 9, 2), (7, .if_icmp .gt 11, 3), (10, .iload_n 1, 1), (11, .aload_n 0, 1), (12, .getfield 109, 3), (15, .if_icmp .ne 5, 3), (18, .iconst 0, 1), (19, .ireturn, 1), (20, .aload_n 0, 1), (21, .iload_n 1, 1), (22, .putfield 109, 3), (25, .iconst 1, 1), (26, .ireturn, 1)]
theorem zhdX11_spite_0 : dzC ztdX11_spite_0 0 (cX11_spite.data.toList.drop 0) = true := by decide +kernel
theorem dX11_spite_0 : decode cX11_spite 0 = .ok (.iload_n 1, 1) := dzr zhdX11_spite_0 0 rfl
theorem dX11_spite_1 : decode cX11_spite 1 = .ok (.ifCond .lt 17, 3) := dzr zhdX11_spite_0 1 rfl
theorem dX11_spite_4 : decode cX11_spite 4 = .ok (.iload_n 1, 1) := dzr zhdX11_spite_0 2 rfl
theorem dX11_spite_5 : decode cX11_spite 5 = .ok (.bipush 9, 2) := dzr zhdX11_spite_0 3 rfl
theorem dX11_spite_7 : decode cX11_spite 7 = .ok (.if_icmp .gt 11, 3) := dzr zhdX11_spite_0 4 rfl
theorem dX11_spite_10 : decode cX11_spite 10 = .ok (.iload_n 1, 1) := dzr zhdX11_spite_0 5 rfl
theorem dX11_spite_11 : decode cX11_spite 11 = .ok (.aload_n 0, 1) := dzr zhdX11_spite_0 6 rfl
theorem dX11_spite_12 : decode cX11_spite 12 = .ok (.getfield 109, 3) := dzr zhdX11_spite_0 7 rfl
theorem dX11_spite_15 : decode cX11_spite 15 = .ok (.if_icmp .ne 5, 3) := dzr zhdX11_spite_0 8 rfl
theorem dX11_spite_18 : decode cX11_spite 18 = .ok (.iconst 0, 1) := dzr zhdX11_spite_0 9 rfl
theorem dX11_spite_19 : decode cX11_spite 19 = .ok (.ireturn, 1) := dzr zhdX11_spite_0 10 rfl
theorem dX11_spite_20 : decode cX11_spite 20 = .ok (.aload_n 0, 1) := dzr zhdX11_spite_0 11 rfl
theorem dX11_spite_21 : decode cX11_spite 21 = .ok (.iload_n 1, 1) := dzr zhdX11_spite_0 12 rfl
theorem dX11_spite_22 : decode cX11_spite 22 = .ok (.putfield 109, 3) := dzr zhdX11_spite_0 13 rfl
theorem dX11_spite_25 : decode cX11_spite 25 = .ok (.iconst 1, 1) := dzr zhdX11_spite_0 14 rfl
theorem dX11_spite_26 : decode cX11_spite 26 = .ok (.ireturn, 1) := dzr zhdX11_spite_0 15 rfl
theorem ggX11_years_X11_noPeace : GoodIn wsX11_years wsX11_noPeace := (bg_up (bg_law (bi_wsL_law0_r23 _ (List.mem_of_getElem? (i := 5) rfl))))
theorem gX11_years_X11_noPeace : GoodIn wsX11_years (wsV RX11 146 RX11 yX11_noPeace wsX11_noPeace) := goodIn_app (bg_up (bg_cons (bi_wsL_law0_r23 _ (List.mem_of_getElem? (i := 2) rfl)) (bg_cons (bi_wsL_law0_r23 _ (List.mem_of_getElem? (i := 3) rfl)) (bg_cons (bi_wsL_law0_r23 _ (List.mem_of_getElem? (i := 4) rfl)) (bg_cons (bi_wsL_law0_r1 _ (List.mem_of_getElem? (i := 2) rfl)) bg_nil))))) (bg_up (bg_law (bi_wsL_law0_r23 _ (List.mem_of_getElem? (i := 5) rfl))))
theorem ggX11_years_X9_day : GoodIn wsX11_years wsX9_day := (bg_up (bg_law (bi_wsL_law0_r29 _ (List.mem_of_getElem? (i := 19) rfl))))
theorem gX11_years_X9_day : GoodIn wsX11_years (wsV RX11 239 RX9 yX9_day wsX9_day) := goodIn_app (bg_up (bg_cons (bi_wsL_law0_r36 _ (List.mem_of_getElem? (i := 19) rfl)) (bg_cons (bi_wsL_law0_r29 _ (List.mem_of_getElem? (i := 17) rfl)) (bg_cons (bi_wsL_law0_r29 _ (List.mem_of_getElem? (i := 18) rfl)) (bg_cons (bi_wsL_law0_r2 _ (List.mem_of_getElem? (i := 12) rfl)) bg_nil))))) (bg_up (bg_law (bi_wsL_law0_r29 _ (List.mem_of_getElem? (i := 19) rfl))))
theorem ggX11_years_X0_keep : GoodIn wsX11_years wsX0_keep := (bg_up (bg_law (bi_wsL_law0_r28 _ (List.mem_of_getElem? (i := 20) rfl))))
theorem gX11_years_X0_keep : GoodIn wsX11_years (wsV RX11 213 RX0 yX0_keep wsX0_keep) := goodIn_app (bg_up (bg_cons (bi_wsL_law0_r28 _ (List.mem_of_getElem? (i := 17) rfl)) (bg_cons (bi_wsL_law0_r28 _ (List.mem_of_getElem? (i := 18) rfl)) (bg_cons (bi_wsL_law0_r28 _ (List.mem_of_getElem? (i := 19) rfl)) (bg_cons (bi_wsL_law0_r2 _ (List.mem_of_getElem? (i := 21) rfl)) bg_nil))))) (bg_up (bg_law (bi_wsL_law0_r28 _ (List.mem_of_getElem? (i := 20) rfl))))
theorem ggX11_years_X11_drawMeeting : GoodIn wsX11_years wsX11_drawMeeting := (bg_up (bg_law (bi_wsL_law0_r40 _ (List.mem_of_getElem? (i := 4) rfl))))
theorem gX11_years_X11_drawMeeting : GoodIn wsX11_years (wsV RX11 245 RX11 yX11_drawMeeting wsX11_drawMeeting) := goodIn_app (bg_up (bg_cons (bi_wsL_law0_r40 _ (List.mem_of_getElem? (i := 1) rfl)) (bg_cons (bi_wsL_law0_r40 _ (List.mem_of_getElem? (i := 2) rfl)) (bg_cons (bi_wsL_law0_r40 _ (List.mem_of_getElem? (i := 3) rfl)) (bg_cons (bi_wsL_law0_r1 _ (List.mem_of_getElem? (i := 2) rfl)) bg_nil))))) (bg_up (bg_law (bi_wsL_law0_r40 _ (List.mem_of_getElem? (i := 4) rfl))))
theorem ggX11_years_X11_draw : GoodIn wsX11_years wsX11_draw := (bg_up (bg_law (bi_wsL_law0_r40 _ (List.mem_of_getElem? (i := 8) rfl))))
theorem gX11_years_X11_draw : GoodIn wsX11_years (wsV RX11 248 RX11 yX11_draw wsX11_draw) := goodIn_app (bg_up (bg_cons (bi_wsL_law0_r40 _ (List.mem_of_getElem? (i := 5) rfl)) (bg_cons (bi_wsL_law0_r40 _ (List.mem_of_getElem? (i := 6) rfl)) (bg_cons (bi_wsL_law0_r40 _ (List.mem_of_getElem? (i := 7) rfl)) (bg_cons (bi_wsL_law0_r1 _ (List.mem_of_getElem? (i := 2) rfl)) bg_nil))))) (bg_up (bg_law (bi_wsL_law0_r40 _ (List.mem_of_getElem? (i := 8) rfl))))
theorem ggX11_years_X9_growProud : GoodIn wsX11_years wsX9_growProud := (bg_up (bg_law (bi_wsL_law0_r36 _ (List.mem_of_getElem? (i := 2) rfl))))
theorem gX11_years_X9_growProud : GoodIn wsX11_years (wsV RX11 236 RX9 yX9_growProud wsX9_growProud) := goodIn_app (bg_up (bg_cons (bi_wsL_law0_r35 _ (List.mem_of_getElem? (i := 23) rfl)) (bg_cons (bi_wsL_law0_r36 _ (List.mem_of_getElem? (i := 0) rfl)) (bg_cons (bi_wsL_law0_r36 _ (List.mem_of_getElem? (i := 1) rfl)) (bg_cons (bi_wsL_law0_r2 _ (List.mem_of_getElem? (i := 12) rfl)) bg_nil))))) (bg_up (bg_law (bi_wsL_law0_r36 _ (List.mem_of_getElem? (i := 2) rfl))))
theorem ggX11_years_X11_passDay : GoodIn wsX11_years wsX11_passDay := (bg_up (bg_law (bi_wsL_law0_r36 _ (List.mem_of_getElem? (i := 23) rfl))))
theorem gX11_years_X11_passDay : GoodIn wsX11_years (wsV RX11 242 RX11 yX11_passDay wsX11_passDay) := goodIn_app (bg_up (bg_cons (bi_wsL_law0_r36 _ (List.mem_of_getElem? (i := 20) rfl)) (bg_cons (bi_wsL_law0_r36 _ (List.mem_of_getElem? (i := 21) rfl)) (bg_cons (bi_wsL_law0_r36 _ (List.mem_of_getElem? (i := 22) rfl)) (bg_cons (bi_wsL_law0_r1 _ (List.mem_of_getElem? (i := 2) rfl)) bg_nil))))) (bg_up (bg_law (bi_wsL_law0_r36 _ (List.mem_of_getElem? (i := 23) rfl))))
def ztdX11_years_0 : List (Nat × Instr × Nat) := [(0, .aload_n 0, 1), (1, .invokevirtual 146, 3), (4, .ifCond .ne 29, 3), (7, .iload_n 1, 1), (8, .iconst 1, 1), (9, .if_icmp .lt 24, 3), (12, .iload_n 1, 1), (13, .bipush 60, 2), (15, .if_icmp .gt 18, 3), (18, .aload_n 0, 1), (19, .getfield 51, 3), (22, .invokevirtual 239, 3), (25, .iload_n 1, 1), (26, .iadd, 1), (27, .sipush 999, 3), (30, .if_icmp .le 5, 3), (33, .iconst (-1), 1), (34, .ireturn, 1), (35, .aload_n 0, 1), (36, .lload_n 2, 1), (37, .putfield 113, 3), (40, .iconst 0, 1), (41, .istore 4, 2), (43, .iload 4, 2)]
theorem zhdX11_years_0 : dzC ztdX11_years_0 0 (cX11_years.data.toList.drop 0) = true := by decide +kernel
theorem dX11_years_0 : decode cX11_years 0 = .ok (.aload_n 0, 1) := dzr zhdX11_years_0 0 rfl
theorem dX11_years_1 : decode cX11_years 1 = .ok (.invokevirtual 146, 3) := dzr zhdX11_years_0 1 rfl
theorem dX11_years_4 : decode cX11_years 4 = .ok (.ifCond .ne 29, 3) := dzr zhdX11_years_0 2 rfl
theorem dX11_years_7 : decode cX11_years 7 = .ok (.iload_n 1, 1) := dzr zhdX11_years_0 3 rfl
theorem dX11_years_8 : decode cX11_years 8 = .ok (.iconst 1, 1) := dzr zhdX11_years_0 4 rfl
theorem dX11_years_9 : decode cX11_years 9 = .ok (.if_icmp .lt 24, 3) := dzr zhdX11_years_0 5 rfl
theorem dX11_years_12 : decode cX11_years 12 = .ok (.iload_n 1, 1) := dzr zhdX11_years_0 6 rfl
theorem dX11_years_13 : decode cX11_years 13 = .ok (.bipush 60, 2) := dzr zhdX11_years_0 7 rfl
theorem dX11_years_15 : decode cX11_years 15 = .ok (.if_icmp .gt 18, 3) := dzr zhdX11_years_0 8 rfl
theorem dX11_years_18 : decode cX11_years 18 = .ok (.aload_n 0, 1) := dzr zhdX11_years_0 9 rfl
theorem dX11_years_19 : decode cX11_years 19 = .ok (.getfield 51, 3) := dzr zhdX11_years_0 10 rfl
theorem dX11_years_22 : decode cX11_years 22 = .ok (.invokevirtual 239, 3) := dzr zhdX11_years_0 11 rfl
theorem dX11_years_25 : decode cX11_years 25 = .ok (.iload_n 1, 1) := dzr zhdX11_years_0 12 rfl
theorem dX11_years_26 : decode cX11_years 26 = .ok (.iadd, 1) := dzr zhdX11_years_0 13 rfl
theorem dX11_years_27 : decode cX11_years 27 = .ok (.sipush 999, 3) := dzr zhdX11_years_0 14 rfl
theorem dX11_years_30 : decode cX11_years 30 = .ok (.if_icmp .le 5, 3) := dzr zhdX11_years_0 15 rfl
theorem dX11_years_33 : decode cX11_years 33 = .ok (.iconst (-1), 1) := dzr zhdX11_years_0 16 rfl
theorem dX11_years_34 : decode cX11_years 34 = .ok (.ireturn, 1) := dzr zhdX11_years_0 17 rfl
theorem dX11_years_35 : decode cX11_years 35 = .ok (.aload_n 0, 1) := dzr zhdX11_years_0 18 rfl
theorem dX11_years_36 : decode cX11_years 36 = .ok (.lload_n 2, 1) := dzr zhdX11_years_0 19 rfl
theorem dX11_years_37 : decode cX11_years 37 = .ok (.putfield 113, 3) := dzr zhdX11_years_0 20 rfl
theorem dX11_years_40 : decode cX11_years 40 = .ok (.iconst 0, 1) := dzr zhdX11_years_0 21 rfl
theorem dX11_years_41 : decode cX11_years 41 = .ok (.istore 4, 2) := dzr zhdX11_years_0 22 rfl
theorem dX11_years_43 : decode cX11_years 43 = .ok (.iload 4, 2) := dzr zhdX11_years_0 23 rfl
def ztdX11_years_45 : List (Nat × Instr × Nat) := [(45, .iload_n 1, 1), (46, .if_icmp .ge 52, 3), (49, .aload_n 0, 1), (50, .getfield 68, 3), (53, .aload_n 0, 1), (54, .getfield 51, 3), (57, .invokevirtual 213, 3), (60, .aload_n 0, 1), (61, .invokevirtual 245, 3), (64, .aload_n 0, 1), (65, .invokevirtual 245, 3), (68, .aload_n 0, 1), (69, .bipush 10, 2), (71, .invokevirtual 248, 3), (74, .aload_n 0, 1), (75, .getfield 109, 3), (78, .if_icmp .ge 10, 3), (81, .aload_n 0, 1), (82, .getfield 51, 3), (85, .invokevirtual 236, 3), (88, .aload_n 0, 1), (89, .invokevirtual 242, 3), (92, .iinc 4 1, 3), (95, .goto (-52), 3)]
theorem zhdX11_years_45 : dzC ztdX11_years_45 45 (cX11_years.data.toList.drop 45) = true := by decide +kernel
theorem dX11_years_45 : decode cX11_years 45 = .ok (.iload_n 1, 1) := dzr zhdX11_years_45 0 rfl
theorem dX11_years_46 : decode cX11_years 46 = .ok (.if_icmp .ge 52, 3) := dzr zhdX11_years_45 1 rfl
theorem dX11_years_49 : decode cX11_years 49 = .ok (.aload_n 0, 1) := dzr zhdX11_years_45 2 rfl
theorem dX11_years_50 : decode cX11_years 50 = .ok (.getfield 68, 3) := dzr zhdX11_years_45 3 rfl
theorem dX11_years_53 : decode cX11_years 53 = .ok (.aload_n 0, 1) := dzr zhdX11_years_45 4 rfl
theorem dX11_years_54 : decode cX11_years 54 = .ok (.getfield 51, 3) := dzr zhdX11_years_45 5 rfl
theorem dX11_years_57 : decode cX11_years 57 = .ok (.invokevirtual 213, 3) := dzr zhdX11_years_45 6 rfl
theorem dX11_years_60 : decode cX11_years 60 = .ok (.aload_n 0, 1) := dzr zhdX11_years_45 7 rfl
theorem dX11_years_61 : decode cX11_years 61 = .ok (.invokevirtual 245, 3) := dzr zhdX11_years_45 8 rfl
theorem dX11_years_64 : decode cX11_years 64 = .ok (.aload_n 0, 1) := dzr zhdX11_years_45 9 rfl
theorem dX11_years_65 : decode cX11_years 65 = .ok (.invokevirtual 245, 3) := dzr zhdX11_years_45 10 rfl
theorem dX11_years_68 : decode cX11_years 68 = .ok (.aload_n 0, 1) := dzr zhdX11_years_45 11 rfl
theorem dX11_years_69 : decode cX11_years 69 = .ok (.bipush 10, 2) := dzr zhdX11_years_45 12 rfl
theorem dX11_years_71 : decode cX11_years 71 = .ok (.invokevirtual 248, 3) := dzr zhdX11_years_45 13 rfl
theorem dX11_years_74 : decode cX11_years 74 = .ok (.aload_n 0, 1) := dzr zhdX11_years_45 14 rfl
theorem dX11_years_75 : decode cX11_years 75 = .ok (.getfield 109, 3) := dzr zhdX11_years_45 15 rfl
theorem dX11_years_78 : decode cX11_years 78 = .ok (.if_icmp .ge 10, 3) := dzr zhdX11_years_45 16 rfl
theorem dX11_years_81 : decode cX11_years 81 = .ok (.aload_n 0, 1) := dzr zhdX11_years_45 17 rfl
theorem dX11_years_82 : decode cX11_years 82 = .ok (.getfield 51, 3) := dzr zhdX11_years_45 18 rfl
theorem dX11_years_85 : decode cX11_years 85 = .ok (.invokevirtual 236, 3) := dzr zhdX11_years_45 19 rfl
theorem dX11_years_88 : decode cX11_years 88 = .ok (.aload_n 0, 1) := dzr zhdX11_years_45 20 rfl
theorem dX11_years_89 : decode cX11_years 89 = .ok (.invokevirtual 242, 3) := dzr zhdX11_years_45 21 rfl
theorem dX11_years_92 : decode cX11_years 92 = .ok (.iinc 4 1, 3) := dzr zhdX11_years_45 22 rfl
theorem dX11_years_95 : decode cX11_years 95 = .ok (.goto (-52), 3) := dzr zhdX11_years_45 23 rfl
def ztdX11_years_98 : List (Nat × Instr × Nat) := [(98, .aload_n 0, 1), (99, .getfield 51, 3), (102, .invokevirtual 239, 3), (105, .ireturn, 1)]
theorem zhdX11_years_98 : dzC ztdX11_years_98 98 (cX11_years.data.toList.drop 98) = true := by decide +kernel
theorem dX11_years_98 : decode cX11_years 98 = .ok (.aload_n 0, 1) := dzr zhdX11_years_98 0 rfl
theorem dX11_years_99 : decode cX11_years 99 = .ok (.getfield 51, 3) := dzr zhdX11_years_98 1 rfl
theorem dX11_years_102 : decode cX11_years 102 = .ok (.invokevirtual 239, 3) := dzr zhdX11_years_98 2 rfl
theorem dX11_years_105 : decode cX11_years 105 = .ok (.ireturn, 1) := dzr zhdX11_years_98 3 rfl
def ztdX11_status_0 : List (Nat × Instr × Nat) := [(0, .iload_n 1, 1), (1, .ifCond .lt 8, 3), (4, .iload_n 1, 1), (5, .iconst 4, 1), (6, .if_icmp .le 7, 3), (9, .iconst (-1), 1), (10, .goto 9, 3), (13, .aload_n 0, 1), (14, .getfield 101, 3), (17, .iload_n 1, 1), (18, .iaload, 1), (19, .ireturn, 1)]
theorem zhdX11_status_0 : dzC ztdX11_status_0 0 (cX11_status.data.toList.drop 0) = true := by decide +kernel
theorem dX11_status_0 : decode cX11_status 0 = .ok (.iload_n 1, 1) := dzr zhdX11_status_0 0 rfl
theorem dX11_status_1 : decode cX11_status 1 = .ok (.ifCond .lt 8, 3) := dzr zhdX11_status_0 1 rfl
theorem dX11_status_4 : decode cX11_status 4 = .ok (.iload_n 1, 1) := dzr zhdX11_status_0 2 rfl
theorem dX11_status_5 : decode cX11_status 5 = .ok (.iconst 4, 1) := dzr zhdX11_status_0 3 rfl
theorem dX11_status_6 : decode cX11_status 6 = .ok (.if_icmp .le 7, 3) := dzr zhdX11_status_0 4 rfl
theorem dX11_status_9 : decode cX11_status 9 = .ok (.iconst (-1), 1) := dzr zhdX11_status_0 5 rfl
theorem dX11_status_10 : decode cX11_status 10 = .ok (.goto 9, 3) := dzr zhdX11_status_0 6 rfl
theorem dX11_status_13 : decode cX11_status 13 = .ok (.aload_n 0, 1) := dzr zhdX11_status_0 7 rfl
theorem dX11_status_14 : decode cX11_status 14 = .ok (.getfield 101, 3) := dzr zhdX11_status_0 8 rfl
theorem dX11_status_17 : decode cX11_status 17 = .ok (.iload_n 1, 1) := dzr zhdX11_status_0 9 rfl
theorem dX11_status_18 : decode cX11_status 18 = .ok (.iaload, 1) := dzr zhdX11_status_0 10 rfl
theorem dX11_status_19 : decode cX11_status 19 = .ok (.ireturn, 1) := dzr zhdX11_status_0 11 rfl
theorem ggX11_undo_X0_takeBack : GoodIn wsX11_undo wsX0_takeBack := (bg_up (bg_law (bi_wsL_law0_r41 _ (List.mem_of_getElem? (i := 18) rfl))))
theorem gX11_undo_X0_takeBack : GoodIn wsX11_undo (wsV RX11 252 RX0 yX0_takeBack wsX0_takeBack) := goodIn_app (bg_up (bg_cons (bi_wsL_law0_r41 _ (List.mem_of_getElem? (i := 15) rfl)) (bg_cons (bi_wsL_law0_r41 _ (List.mem_of_getElem? (i := 16) rfl)) (bg_cons (bi_wsL_law0_r41 _ (List.mem_of_getElem? (i := 17) rfl)) (bg_cons (bi_wsL_law0_r2 _ (List.mem_of_getElem? (i := 21) rfl)) bg_nil))))) (bg_up (bg_law (bi_wsL_law0_r41 _ (List.mem_of_getElem? (i := 18) rfl))))
def ztdX11_undo_0 : List (Nat × Instr × Nat) := [(0, .aload_n 0, 1), (1, .getfield 68, 3), (4, .getfield 251, 3), (7, .ifCond .ne 5, 3), (10, .iconst (-1), 1), (11, .ireturn, 1), (12, .aload_n 0, 1), (13, .getfield 68, 3), (16, .aload_n 0, 1), (17, .getfield 51, 3), (20, .invokevirtual 252, 3), (23, .aload_n 0, 1), (24, .getfield 68, 3), (27, .getfield 251, 3), (30, .ireturn, 1)]
theorem zhdX11_undo_0 : dzC ztdX11_undo_0 0 (cX11_undo.data.toList.drop 0) = true := by decide +kernel
theorem dX11_undo_0 : decode cX11_undo 0 = .ok (.aload_n 0, 1) := dzr zhdX11_undo_0 0 rfl
theorem dX11_undo_1 : decode cX11_undo 1 = .ok (.getfield 68, 3) := dzr zhdX11_undo_0 1 rfl
theorem dX11_undo_4 : decode cX11_undo 4 = .ok (.getfield 251, 3) := dzr zhdX11_undo_0 2 rfl
theorem dX11_undo_7 : decode cX11_undo 7 = .ok (.ifCond .ne 5, 3) := dzr zhdX11_undo_0 3 rfl
theorem dX11_undo_10 : decode cX11_undo 10 = .ok (.iconst (-1), 1) := dzr zhdX11_undo_0 4 rfl
theorem dX11_undo_11 : decode cX11_undo 11 = .ok (.ireturn, 1) := dzr zhdX11_undo_0 5 rfl
theorem dX11_undo_12 : decode cX11_undo 12 = .ok (.aload_n 0, 1) := dzr zhdX11_undo_0 6 rfl
theorem dX11_undo_13 : decode cX11_undo 13 = .ok (.getfield 68, 3) := dzr zhdX11_undo_0 7 rfl
theorem dX11_undo_16 : decode cX11_undo 16 = .ok (.aload_n 0, 1) := dzr zhdX11_undo_0 8 rfl
theorem dX11_undo_17 : decode cX11_undo 17 = .ok (.getfield 51, 3) := dzr zhdX11_undo_0 9 rfl
theorem dX11_undo_20 : decode cX11_undo 20 = .ok (.invokevirtual 252, 3) := dzr zhdX11_undo_0 10 rfl
theorem dX11_undo_23 : decode cX11_undo 23 = .ok (.aload_n 0, 1) := dzr zhdX11_undo_0 11 rfl
theorem dX11_undo_24 : decode cX11_undo 24 = .ok (.getfield 68, 3) := dzr zhdX11_undo_0 12 rfl
theorem dX11_undo_27 : decode cX11_undo 27 = .ok (.getfield 251, 3) := dzr zhdX11_undo_0 13 rfl
theorem dX11_undo_30 : decode cX11_undo 30 = .ok (.ireturn, 1) := dzr zhdX11_undo_0 14 rfl
theorem ggX11_log_X9_day : GoodIn wsX11_log wsX9_day := (bg_up (bg_law (bi_wsL_law0_r29 _ (List.mem_of_getElem? (i := 19) rfl))))
theorem gX11_log_X9_day : GoodIn wsX11_log (wsV RX11 239 RX9 yX9_day wsX9_day) := goodIn_app (bg_up (bg_cons (bi_wsL_law0_r36 _ (List.mem_of_getElem? (i := 19) rfl)) (bg_cons (bi_wsL_law0_r29 _ (List.mem_of_getElem? (i := 17) rfl)) (bg_cons (bi_wsL_law0_r29 _ (List.mem_of_getElem? (i := 18) rfl)) (bg_cons (bi_wsL_law0_r2 _ (List.mem_of_getElem? (i := 12) rfl)) bg_nil))))) (bg_up (bg_law (bi_wsL_law0_r29 _ (List.mem_of_getElem? (i := 19) rfl))))
theorem ggX11_log_X3_lengthOn : GoodIn wsX11_log wsX3_lengthOn := (bg_up (bg_law (bi_wsL_law0_r42 _ (List.mem_of_getElem? (i := 5) rfl))))
theorem gX11_log_X3_lengthOn : GoodIn wsX11_log (va_wsS RX11 255 yX3_lengthOn wsX3_lengthOn) := goodIn_app (bg_up (bg_cons (bi_wsL_law0_r42 _ (List.mem_of_getElem? (i := 3) rfl)) (bg_cons (bi_wsL_law0_r42 _ (List.mem_of_getElem? (i := 4) rfl)) (bg_cons (bi_wsL_law0_r2 _ (List.mem_of_getElem? (i := 17) rfl)) bg_nil)))) (bg_up (bg_law (bi_wsL_law0_r42 _ (List.mem_of_getElem? (i := 5) rfl))))
theorem ggX11_log_X3_read : GoodIn wsX11_log wsX3_read := (bg_up (bg_law (bi_wsL_law0_r42 _ (List.mem_of_getElem? (i := 10) rfl))))
theorem gX11_log_X3_read : GoodIn wsX11_log (wsV RX11 258 RX3 yX3_read wsX3_read) := goodIn_app (bg_up (bg_cons (bi_wsL_law0_r42 _ (List.mem_of_getElem? (i := 7) rfl)) (bg_cons (bi_wsL_law0_r42 _ (List.mem_of_getElem? (i := 8) rfl)) (bg_cons (bi_wsL_law0_r42 _ (List.mem_of_getElem? (i := 9) rfl)) (bg_cons (bi_wsL_law0_r2 _ (List.mem_of_getElem? (i := 17) rfl)) bg_nil))))) (bg_up (bg_law (bi_wsL_law0_r42 _ (List.mem_of_getElem? (i := 10) rfl))))
def ztdX11_log_0 : List (Nat × Instr × Nat) := [(0, .iload_n 1, 1), (1, .ifCond .lt 26, 3), (4, .iload_n 1, 1), (5, .aload_n 0, 1), (6, .getfield 51, 3), (9, .invokevirtual 239, 3), (12, .invokestatic 255, 3), (15, .if_icmp .ge 12, 3), (18, .iload_n 2, 1), (19, .ifCond .lt 8, 3), (22, .iload_n 2, 1), (23, .iconst 2, 1), (24, .if_icmp .le 5, 3), (27, .iconst (-1), 1), (28, .ireturn, 1), (29, .aload_n 0, 1), (30, .getfield 61, 3), (33, .aload_n 0, 1), (34, .getfield 51, 3), (37, .invokevirtual 239, 3), (40, .iconst 1, 1), (41, .isub, 1), (42, .iload_n 1, 1), (43, .isub, 1)]
theorem zhdX11_log_0 : dzC ztdX11_log_0 0 (cX11_log.data.toList.drop 0) = true := by decide +kernel
theorem dX11_log_0 : decode cX11_log 0 = .ok (.iload_n 1, 1) := dzr zhdX11_log_0 0 rfl
theorem dX11_log_1 : decode cX11_log 1 = .ok (.ifCond .lt 26, 3) := dzr zhdX11_log_0 1 rfl
theorem dX11_log_4 : decode cX11_log 4 = .ok (.iload_n 1, 1) := dzr zhdX11_log_0 2 rfl
theorem dX11_log_5 : decode cX11_log 5 = .ok (.aload_n 0, 1) := dzr zhdX11_log_0 3 rfl
theorem dX11_log_6 : decode cX11_log 6 = .ok (.getfield 51, 3) := dzr zhdX11_log_0 4 rfl
theorem dX11_log_9 : decode cX11_log 9 = .ok (.invokevirtual 239, 3) := dzr zhdX11_log_0 5 rfl
theorem dX11_log_12 : decode cX11_log 12 = .ok (.invokestatic 255, 3) := dzr zhdX11_log_0 6 rfl
theorem dX11_log_15 : decode cX11_log 15 = .ok (.if_icmp .ge 12, 3) := dzr zhdX11_log_0 7 rfl
theorem dX11_log_18 : decode cX11_log 18 = .ok (.iload_n 2, 1) := dzr zhdX11_log_0 8 rfl
theorem dX11_log_19 : decode cX11_log 19 = .ok (.ifCond .lt 8, 3) := dzr zhdX11_log_0 9 rfl
theorem dX11_log_22 : decode cX11_log 22 = .ok (.iload_n 2, 1) := dzr zhdX11_log_0 10 rfl
theorem dX11_log_23 : decode cX11_log 23 = .ok (.iconst 2, 1) := dzr zhdX11_log_0 11 rfl
theorem dX11_log_24 : decode cX11_log 24 = .ok (.if_icmp .le 5, 3) := dzr zhdX11_log_0 12 rfl
theorem dX11_log_27 : decode cX11_log 27 = .ok (.iconst (-1), 1) := dzr zhdX11_log_0 13 rfl
theorem dX11_log_28 : decode cX11_log 28 = .ok (.ireturn, 1) := dzr zhdX11_log_0 14 rfl
theorem dX11_log_29 : decode cX11_log 29 = .ok (.aload_n 0, 1) := dzr zhdX11_log_0 15 rfl
theorem dX11_log_30 : decode cX11_log 30 = .ok (.getfield 61, 3) := dzr zhdX11_log_0 16 rfl
theorem dX11_log_33 : decode cX11_log 33 = .ok (.aload_n 0, 1) := dzr zhdX11_log_0 17 rfl
theorem dX11_log_34 : decode cX11_log 34 = .ok (.getfield 51, 3) := dzr zhdX11_log_0 18 rfl
theorem dX11_log_37 : decode cX11_log 37 = .ok (.invokevirtual 239, 3) := dzr zhdX11_log_0 19 rfl
theorem dX11_log_40 : decode cX11_log 40 = .ok (.iconst 1, 1) := dzr zhdX11_log_0 20 rfl
theorem dX11_log_41 : decode cX11_log 41 = .ok (.isub, 1) := dzr zhdX11_log_0 21 rfl
theorem dX11_log_42 : decode cX11_log 42 = .ok (.iload_n 1, 1) := dzr zhdX11_log_0 22 rfl
theorem dX11_log_43 : decode cX11_log 43 = .ok (.isub, 1) := dzr zhdX11_log_0 23 rfl
def ztdX11_log_44 : List (Nat × Instr × Nat) := [(44, .iload_n 2, 1), (45, .invokevirtual 258, 3), (48, .ireturn, 1)]
theorem zhdX11_log_44 : dzC ztdX11_log_44 44 (cX11_log.data.toList.drop 44) = true := by decide +kernel
theorem dX11_log_44 : decode cX11_log 44 = .ok (.iload_n 2, 1) := dzr zhdX11_log_44 0 rfl
theorem dX11_log_45 : decode cX11_log 45 = .ok (.invokevirtual 258, 3) := dzr zhdX11_log_44 1 rfl
theorem dX11_log_48 : decode cX11_log 48 = .ok (.ireturn, 1) := dzr zhdX11_log_44 2 rfl
theorem ggX11_rises_X5_unlike : GoodIn wsX11_rises wsX5_unlike := (bg_up (bg_law (bi_wsL_law0_r26 _ (List.mem_of_getElem? (i := 21) rfl))))
theorem gX11_rises_X5_unlike : GoodIn wsX11_rises (wsV RX11 196 RX5 yX5_unlike wsX5_unlike) := goodIn_app (bg_up (bg_cons (bi_wsL_law0_r26 _ (List.mem_of_getElem? (i := 18) rfl)) (bg_cons (bi_wsL_law0_r26 _ (List.mem_of_getElem? (i := 19) rfl)) (bg_cons (bi_wsL_law0_r26 _ (List.mem_of_getElem? (i := 20) rfl)) (bg_cons (bi_wsL_law0_r2 _ (List.mem_of_getElem? (i := 4) rfl)) bg_nil))))) (bg_up (bg_law (bi_wsL_law0_r26 _ (List.mem_of_getElem? (i := 21) rfl))))
theorem ggX11_rises_X9_riseOf : GoodIn wsX11_rises wsX9_riseOf := (bg_up (bg_law (bi_wsL_law0_r42 _ (List.mem_of_getElem? (i := 23) rfl))))
theorem gX11_rises_X9_riseOf : GoodIn wsX11_rises (wsV RX11 261 RX9 yX9_riseOf wsX9_riseOf) := goodIn_app (bg_up (bg_cons (bi_wsL_law0_r42 _ (List.mem_of_getElem? (i := 20) rfl)) (bg_cons (bi_wsL_law0_r42 _ (List.mem_of_getElem? (i := 21) rfl)) (bg_cons (bi_wsL_law0_r42 _ (List.mem_of_getElem? (i := 22) rfl)) (bg_cons (bi_wsL_law0_r2 _ (List.mem_of_getElem? (i := 12) rfl)) bg_nil))))) (bg_up (bg_law (bi_wsL_law0_r42 _ (List.mem_of_getElem? (i := 23) rfl))))
def ztdX11_rises_0 : List (Nat × Instr × Nat) := [(0, .aload_n 0, 1), (1, .getfield 35, 3), (4, .iload_n 1, 1), (5, .iload_n 2, 1), (6, .invokevirtual 196, 3), (9, .ifCond .eq 15, 3), (12, .aload_n 0, 1), (13, .getfield 51, 3), (16, .iload_n 1, 1), (17, .iload_n 2, 1), (18, .invokevirtual 261, 3), (21, .goto 6, 3), (24, .ldc_w 264, 3), (27, .ireturn, 1)]
theorem zhdX11_rises_0 : dzC ztdX11_rises_0 0 (cX11_rises.data.toList.drop 0) = true := by decide +kernel
theorem dX11_rises_0 : decode cX11_rises 0 = .ok (.aload_n 0, 1) := dzr zhdX11_rises_0 0 rfl
theorem dX11_rises_1 : decode cX11_rises 1 = .ok (.getfield 35, 3) := dzr zhdX11_rises_0 1 rfl
theorem dX11_rises_4 : decode cX11_rises 4 = .ok (.iload_n 1, 1) := dzr zhdX11_rises_0 2 rfl
theorem dX11_rises_5 : decode cX11_rises 5 = .ok (.iload_n 2, 1) := dzr zhdX11_rises_0 3 rfl
theorem dX11_rises_6 : decode cX11_rises 6 = .ok (.invokevirtual 196, 3) := dzr zhdX11_rises_0 4 rfl
theorem dX11_rises_9 : decode cX11_rises 9 = .ok (.ifCond .eq 15, 3) := dzr zhdX11_rises_0 5 rfl
theorem dX11_rises_12 : decode cX11_rises 12 = .ok (.aload_n 0, 1) := dzr zhdX11_rises_0 6 rfl
theorem dX11_rises_13 : decode cX11_rises 13 = .ok (.getfield 51, 3) := dzr zhdX11_rises_0 7 rfl
theorem dX11_rises_16 : decode cX11_rises 16 = .ok (.iload_n 1, 1) := dzr zhdX11_rises_0 8 rfl
theorem dX11_rises_17 : decode cX11_rises 17 = .ok (.iload_n 2, 1) := dzr zhdX11_rises_0 9 rfl
theorem dX11_rises_18 : decode cX11_rises 18 = .ok (.invokevirtual 261, 3) := dzr zhdX11_rises_0 10 rfl
theorem dX11_rises_21 : decode cX11_rises 21 = .ok (.goto 6, 3) := dzr zhdX11_rises_0 11 rfl
theorem dX11_rises_24 : decode cX11_rises 24 = .ok (.ldc_w 264, 3) := dzr zhdX11_rises_0 12 rfl
theorem dX11_rises_27 : decode cX11_rises 27 = .ok (.ireturn, 1) := dzr zhdX11_rises_0 13 rfl
theorem ggX11_later_X5_unlike : GoodIn wsX11_later wsX5_unlike := (bg_up (bg_law (bi_wsL_law0_r26 _ (List.mem_of_getElem? (i := 21) rfl))))
theorem gX11_later_X5_unlike : GoodIn wsX11_later (wsV RX11 196 RX5 yX5_unlike wsX5_unlike) := goodIn_app (bg_up (bg_cons (bi_wsL_law0_r26 _ (List.mem_of_getElem? (i := 18) rfl)) (bg_cons (bi_wsL_law0_r26 _ (List.mem_of_getElem? (i := 19) rfl)) (bg_cons (bi_wsL_law0_r26 _ (List.mem_of_getElem? (i := 20) rfl)) (bg_cons (bi_wsL_law0_r2 _ (List.mem_of_getElem? (i := 4) rfl)) bg_nil))))) (bg_up (bg_law (bi_wsL_law0_r26 _ (List.mem_of_getElem? (i := 21) rfl))))
theorem ggX11_later_X9_warmthOf : GoodIn wsX11_later wsX9_warmthOf := (bg_up (bg_law (bi_wsL_law0_r27 _ (List.mem_of_getElem? (i := 2) rfl))))
theorem gX11_later_X9_warmthOf : GoodIn wsX11_later (wsV RX11 200 RX9 yX9_warmthOf wsX9_warmthOf) := goodIn_app (bg_up (bg_cons (bi_wsL_law0_r26 _ (List.mem_of_getElem? (i := 23) rfl)) (bg_cons (bi_wsL_law0_r27 _ (List.mem_of_getElem? (i := 0) rfl)) (bg_cons (bi_wsL_law0_r27 _ (List.mem_of_getElem? (i := 1) rfl)) (bg_cons (bi_wsL_law0_r2 _ (List.mem_of_getElem? (i := 12) rfl)) bg_nil))))) (bg_up (bg_law (bi_wsL_law0_r27 _ (List.mem_of_getElem? (i := 2) rfl))))
theorem ggX11_later_X9_warmer : GoodIn wsX11_later wsX9_warmer := (bg_up (bg_law (bi_wsL_law0_r29 _ (List.mem_of_getElem? (i := 13) rfl))))
theorem gX11_later_X9_warmer : GoodIn wsX11_later (wsV RX11 265 RX9 yX9_warmer wsX9_warmer) := goodIn_app (bg_up (bg_cons (bi_wsL_law0_r43 _ (List.mem_of_getElem? (i := 9) rfl)) (bg_cons (bi_wsL_law0_r29 _ (List.mem_of_getElem? (i := 11) rfl)) (bg_cons (bi_wsL_law0_r29 _ (List.mem_of_getElem? (i := 12) rfl)) (bg_cons (bi_wsL_law0_r2 _ (List.mem_of_getElem? (i := 12) rfl)) bg_nil))))) (bg_up (bg_law (bi_wsL_law0_r29 _ (List.mem_of_getElem? (i := 13) rfl))))
def ztdX11_later_0 : List (Nat × Instr × Nat) := [(0, .aload_n 0, 1), (1, .getfield 35, 3), (4, .iload_n 1, 1), (5, .iload_n 2, 1), (6, .invokevirtual 196, 3), (9, .ifCond .eq 13, 3), (12, .iload_n 3, 1), (13, .ifCond .lt 9, 3), (16, .iload_n 3, 1), (17, .bipush 60, 2), (19, .if_icmp .le 5, 3), (22, .iconst (-1), 1), (23, .ireturn, 1), (24, .aload_n 0, 1), (25, .getfield 51, 3), (28, .iload_n 1, 1), (29, .iload_n 2, 1), (30, .invokevirtual 200, 3), (33, .istore 4, 2), (35, .iconst 0, 1), (36, .istore 5, 2), (38, .iload 5, 2), (40, .iload_n 3, 1), (41, .if_icmp .ge 24, 3)]
theorem zhdX11_later_0 : dzC ztdX11_later_0 0 (cX11_later.data.toList.drop 0) = true := by decide +kernel
theorem dX11_later_0 : decode cX11_later 0 = .ok (.aload_n 0, 1) := dzr zhdX11_later_0 0 rfl
theorem dX11_later_1 : decode cX11_later 1 = .ok (.getfield 35, 3) := dzr zhdX11_later_0 1 rfl
theorem dX11_later_4 : decode cX11_later 4 = .ok (.iload_n 1, 1) := dzr zhdX11_later_0 2 rfl
theorem dX11_later_5 : decode cX11_later 5 = .ok (.iload_n 2, 1) := dzr zhdX11_later_0 3 rfl
theorem dX11_later_6 : decode cX11_later 6 = .ok (.invokevirtual 196, 3) := dzr zhdX11_later_0 4 rfl
theorem dX11_later_9 : decode cX11_later 9 = .ok (.ifCond .eq 13, 3) := dzr zhdX11_later_0 5 rfl
theorem dX11_later_12 : decode cX11_later 12 = .ok (.iload_n 3, 1) := dzr zhdX11_later_0 6 rfl
theorem dX11_later_13 : decode cX11_later 13 = .ok (.ifCond .lt 9, 3) := dzr zhdX11_later_0 7 rfl
theorem dX11_later_16 : decode cX11_later 16 = .ok (.iload_n 3, 1) := dzr zhdX11_later_0 8 rfl
theorem dX11_later_17 : decode cX11_later 17 = .ok (.bipush 60, 2) := dzr zhdX11_later_0 9 rfl
theorem dX11_later_19 : decode cX11_later 19 = .ok (.if_icmp .le 5, 3) := dzr zhdX11_later_0 10 rfl
theorem dX11_later_22 : decode cX11_later 22 = .ok (.iconst (-1), 1) := dzr zhdX11_later_0 11 rfl
theorem dX11_later_23 : decode cX11_later 23 = .ok (.ireturn, 1) := dzr zhdX11_later_0 12 rfl
theorem dX11_later_24 : decode cX11_later 24 = .ok (.aload_n 0, 1) := dzr zhdX11_later_0 13 rfl
theorem dX11_later_25 : decode cX11_later 25 = .ok (.getfield 51, 3) := dzr zhdX11_later_0 14 rfl
theorem dX11_later_28 : decode cX11_later 28 = .ok (.iload_n 1, 1) := dzr zhdX11_later_0 15 rfl
theorem dX11_later_29 : decode cX11_later 29 = .ok (.iload_n 2, 1) := dzr zhdX11_later_0 16 rfl
theorem dX11_later_30 : decode cX11_later 30 = .ok (.invokevirtual 200, 3) := dzr zhdX11_later_0 17 rfl
theorem dX11_later_33 : decode cX11_later 33 = .ok (.istore 4, 2) := dzr zhdX11_later_0 18 rfl
theorem dX11_later_35 : decode cX11_later 35 = .ok (.iconst 0, 1) := dzr zhdX11_later_0 19 rfl
theorem dX11_later_36 : decode cX11_later 36 = .ok (.istore 5, 2) := dzr zhdX11_later_0 20 rfl
theorem dX11_later_38 : decode cX11_later 38 = .ok (.iload 5, 2) := dzr zhdX11_later_0 21 rfl
theorem dX11_later_40 : decode cX11_later 40 = .ok (.iload_n 3, 1) := dzr zhdX11_later_0 22 rfl
theorem dX11_later_41 : decode cX11_later 41 = .ok (.if_icmp .ge 24, 3) := dzr zhdX11_later_0 23 rfl
def ztdX11_later_44 : List (Nat × Instr × Nat) := [(44, .aload_n 0, 1), (45, .getfield 51, 3), (48, .iload_n 1, 1), (49, .iload_n 2, 1), (50, .iload 4, 2), (52, .iload 5, 2), (54, .invokevirtual 265, 3), (57, .istore 4, 2), (59, .iinc 5 1, 3), (62, .goto (-24), 3), (65, .iload 4, 2), (67, .ireturn, 1)]
theorem zhdX11_later_44 : dzC ztdX11_later_44 44 (cX11_later.data.toList.drop 44) = true := by decide +kernel
theorem dX11_later_44 : decode cX11_later 44 = .ok (.aload_n 0, 1) := dzr zhdX11_later_44 0 rfl
theorem dX11_later_45 : decode cX11_later 45 = .ok (.getfield 51, 3) := dzr zhdX11_later_44 1 rfl
theorem dX11_later_48 : decode cX11_later 48 = .ok (.iload_n 1, 1) := dzr zhdX11_later_44 2 rfl
theorem dX11_later_49 : decode cX11_later 49 = .ok (.iload_n 2, 1) := dzr zhdX11_later_44 3 rfl
theorem dX11_later_50 : decode cX11_later 50 = .ok (.iload 4, 2) := dzr zhdX11_later_44 4 rfl
theorem dX11_later_52 : decode cX11_later 52 = .ok (.iload 5, 2) := dzr zhdX11_later_44 5 rfl
theorem dX11_later_54 : decode cX11_later 54 = .ok (.invokevirtual 265, 3) := dzr zhdX11_later_44 6 rfl
theorem dX11_later_57 : decode cX11_later 57 = .ok (.istore 4, 2) := dzr zhdX11_later_44 7 rfl
theorem dX11_later_59 : decode cX11_later 59 = .ok (.iinc 5 1, 3) := dzr zhdX11_later_44 8 rfl
theorem dX11_later_62 : decode cX11_later 62 = .ok (.goto (-24), 3) := dzr zhdX11_later_44 9 rfl
theorem dX11_later_65 : decode cX11_later 65 = .ok (.iload 4, 2) := dzr zhdX11_later_44 10 rfl
theorem dX11_later_67 : decode cX11_later 67 = .ok (.ireturn, 1) := dzr zhdX11_later_44 11 rfl
theorem ggX11_soonest_X5_hasMatter : GoodIn wsX11_soonest wsX5_hasMatter := (bg_up (bg_law (bi_wsL_law0_r26 _ (List.mem_of_getElem? (i := 1) rfl))))
theorem gX11_soonest_X5_hasMatter : GoodIn wsX11_soonest (wsV RX11 184 RX5 yX5_hasMatter wsX5_hasMatter) := goodIn_app (bg_up (bg_cons (bi_wsL_law0_r25 _ (List.mem_of_getElem? (i := 22) rfl)) (bg_cons (bi_wsL_law0_r25 _ (List.mem_of_getElem? (i := 23) rfl)) (bg_cons (bi_wsL_law0_r26 _ (List.mem_of_getElem? (i := 0) rfl)) (bg_cons (bi_wsL_law0_r2 _ (List.mem_of_getElem? (i := 4) rfl)) bg_nil))))) (bg_up (bg_law (bi_wsL_law0_r26 _ (List.mem_of_getElem? (i := 1) rfl))))
theorem ggX11_soonest_X5_unlike : GoodIn wsX11_soonest wsX5_unlike := (bg_up (bg_law (bi_wsL_law0_r26 _ (List.mem_of_getElem? (i := 21) rfl))))
theorem gX11_soonest_X5_unlike : GoodIn wsX11_soonest (wsV RX11 196 RX5 yX5_unlike wsX5_unlike) := goodIn_app (bg_up (bg_cons (bi_wsL_law0_r26 _ (List.mem_of_getElem? (i := 18) rfl)) (bg_cons (bi_wsL_law0_r26 _ (List.mem_of_getElem? (i := 19) rfl)) (bg_cons (bi_wsL_law0_r26 _ (List.mem_of_getElem? (i := 20) rfl)) (bg_cons (bi_wsL_law0_r2 _ (List.mem_of_getElem? (i := 4) rfl)) bg_nil))))) (bg_up (bg_law (bi_wsL_law0_r26 _ (List.mem_of_getElem? (i := 21) rfl))))
theorem ggX11_soonest_X11_daysUntil : GoodIn wsX11_soonest wsX11_daysUntil := (bg_up (bg_law (bi_wsL_law0_r43 _ (List.mem_of_getElem? (i := 21) rfl))))
theorem gX11_soonest_X11_daysUntil : GoodIn wsX11_soonest (wsV RX11 272 RX11 yX11_daysUntil wsX11_daysUntil) := goodIn_app (bg_up (bg_cons (bi_wsL_law0_r43 _ (List.mem_of_getElem? (i := 18) rfl)) (bg_cons (bi_wsL_law0_r43 _ (List.mem_of_getElem? (i := 19) rfl)) (bg_cons (bi_wsL_law0_r43 _ (List.mem_of_getElem? (i := 20) rfl)) (bg_cons (bi_wsL_law0_r1 _ (List.mem_of_getElem? (i := 2) rfl)) bg_nil))))) (bg_up (bg_law (bi_wsL_law0_r43 _ (List.mem_of_getElem? (i := 21) rfl))))
def ztdX11_soonest_0 : List (Nat × Instr × Nat) := [(0, .aload_n 0, 1), (1, .getfield 35, 3), (4, .iload_n 1, 1), (5, .invokevirtual 184, 3), (8, .ifCond .eq 12, 3), (11, .iload_n 2, 1), (12, .ifCond .lt 8, 3), (15, .iload_n 2, 1), (16, .iconst 1, 1), (17, .if_icmp .le 5, 3), (20, .iconst (-1), 1), (21, .ireturn, 1), (22, .iconst (-1), 1), (23, .istore_n 3, 1), (24, .bipush 61, 2), (26, .istore 4, 2), (28, .iconst 0, 1), (29, .istore 5, 2), (31, .iload 5, 2), (33, .aload_n 0, 1), (34, .getfield 35, 3), (37, .getfield 269, 3), (40, .if_icmp .ge 91, 3), (43, .iload 5, 2)]
theorem zhdX11_soonest_0 : dzC ztdX11_soonest_0 0 (cX11_soonest.data.toList.drop 0) = true := by decide +kernel
theorem dX11_soonest_0 : decode cX11_soonest 0 = .ok (.aload_n 0, 1) := dzr zhdX11_soonest_0 0 rfl
theorem dX11_soonest_1 : decode cX11_soonest 1 = .ok (.getfield 35, 3) := dzr zhdX11_soonest_0 1 rfl
theorem dX11_soonest_4 : decode cX11_soonest 4 = .ok (.iload_n 1, 1) := dzr zhdX11_soonest_0 2 rfl
theorem dX11_soonest_5 : decode cX11_soonest 5 = .ok (.invokevirtual 184, 3) := dzr zhdX11_soonest_0 3 rfl
theorem dX11_soonest_8 : decode cX11_soonest 8 = .ok (.ifCond .eq 12, 3) := dzr zhdX11_soonest_0 4 rfl
theorem dX11_soonest_11 : decode cX11_soonest 11 = .ok (.iload_n 2, 1) := dzr zhdX11_soonest_0 5 rfl
theorem dX11_soonest_12 : decode cX11_soonest 12 = .ok (.ifCond .lt 8, 3) := dzr zhdX11_soonest_0 6 rfl
theorem dX11_soonest_15 : decode cX11_soonest 15 = .ok (.iload_n 2, 1) := dzr zhdX11_soonest_0 7 rfl
theorem dX11_soonest_16 : decode cX11_soonest 16 = .ok (.iconst 1, 1) := dzr zhdX11_soonest_0 8 rfl
theorem dX11_soonest_17 : decode cX11_soonest 17 = .ok (.if_icmp .le 5, 3) := dzr zhdX11_soonest_0 9 rfl
theorem dX11_soonest_20 : decode cX11_soonest 20 = .ok (.iconst (-1), 1) := dzr zhdX11_soonest_0 10 rfl
theorem dX11_soonest_21 : decode cX11_soonest 21 = .ok (.ireturn, 1) := dzr zhdX11_soonest_0 11 rfl
theorem dX11_soonest_22 : decode cX11_soonest 22 = .ok (.iconst (-1), 1) := dzr zhdX11_soonest_0 12 rfl
theorem dX11_soonest_23 : decode cX11_soonest 23 = .ok (.istore_n 3, 1) := dzr zhdX11_soonest_0 13 rfl
theorem dX11_soonest_24 : decode cX11_soonest 24 = .ok (.bipush 61, 2) := dzr zhdX11_soonest_0 14 rfl
theorem dX11_soonest_26 : decode cX11_soonest 26 = .ok (.istore 4, 2) := dzr zhdX11_soonest_0 15 rfl
theorem dX11_soonest_28 : decode cX11_soonest 28 = .ok (.iconst 0, 1) := dzr zhdX11_soonest_0 16 rfl
theorem dX11_soonest_29 : decode cX11_soonest 29 = .ok (.istore 5, 2) := dzr zhdX11_soonest_0 17 rfl
theorem dX11_soonest_31 : decode cX11_soonest 31 = .ok (.iload 5, 2) := dzr zhdX11_soonest_0 18 rfl
theorem dX11_soonest_33 : decode cX11_soonest 33 = .ok (.aload_n 0, 1) := dzr zhdX11_soonest_0 19 rfl
theorem dX11_soonest_34 : decode cX11_soonest 34 = .ok (.getfield 35, 3) := dzr zhdX11_soonest_0 20 rfl
theorem dX11_soonest_37 : decode cX11_soonest 37 = .ok (.getfield 269, 3) := dzr zhdX11_soonest_0 21 rfl
theorem dX11_soonest_40 : decode cX11_soonest 40 = .ok (.if_icmp .ge 91, 3) := dzr zhdX11_soonest_0 22 rfl
theorem dX11_soonest_43 : decode cX11_soonest 43 = .ok (.iload 5, 2) := dzr zhdX11_soonest_0 23 rfl
def ztdX11_soonest_45 : List (Nat × Instr × Nat) := [(45, .iconst 1, 1), (46, .iadd, 1), (47, .istore 6, 2), (49, .iload 6, 2), (51, .aload_n 0, 1), (52, .getfield 35, 3), (55, .getfield 269, 3), (58, .if_icmp .ge 67, 3), (61, .aload_n 0, 1), (62, .getfield 35, 3), (65, .iload 5, 2), (67, .iload 6, 2), (69, .invokevirtual 196, 3), (72, .ifCond .eq 23, 3), (75, .aload_n 0, 1), (76, .iload 5, 2), (78, .iload 6, 2), (80, .aload_n 0, 1), (81, .getfield 35, 3), (84, .getfield 193, 3), (87, .iload_n 1, 1), (88, .iaload, 1), (89, .invokevirtual 272, 3), (92, .goto 5, 3)]
theorem zhdX11_soonest_45 : dzC ztdX11_soonest_45 45 (cX11_soonest.data.toList.drop 45) = true := by decide +kernel
theorem dX11_soonest_45 : decode cX11_soonest 45 = .ok (.iconst 1, 1) := dzr zhdX11_soonest_45 0 rfl
theorem dX11_soonest_46 : decode cX11_soonest 46 = .ok (.iadd, 1) := dzr zhdX11_soonest_45 1 rfl
theorem dX11_soonest_47 : decode cX11_soonest 47 = .ok (.istore 6, 2) := dzr zhdX11_soonest_45 2 rfl
theorem dX11_soonest_49 : decode cX11_soonest 49 = .ok (.iload 6, 2) := dzr zhdX11_soonest_45 3 rfl
theorem dX11_soonest_51 : decode cX11_soonest 51 = .ok (.aload_n 0, 1) := dzr zhdX11_soonest_45 4 rfl
theorem dX11_soonest_52 : decode cX11_soonest 52 = .ok (.getfield 35, 3) := dzr zhdX11_soonest_45 5 rfl
theorem dX11_soonest_55 : decode cX11_soonest 55 = .ok (.getfield 269, 3) := dzr zhdX11_soonest_45 6 rfl
theorem dX11_soonest_58 : decode cX11_soonest 58 = .ok (.if_icmp .ge 67, 3) := dzr zhdX11_soonest_45 7 rfl
theorem dX11_soonest_61 : decode cX11_soonest 61 = .ok (.aload_n 0, 1) := dzr zhdX11_soonest_45 8 rfl
theorem dX11_soonest_62 : decode cX11_soonest 62 = .ok (.getfield 35, 3) := dzr zhdX11_soonest_45 9 rfl
theorem dX11_soonest_65 : decode cX11_soonest 65 = .ok (.iload 5, 2) := dzr zhdX11_soonest_45 10 rfl
theorem dX11_soonest_67 : decode cX11_soonest 67 = .ok (.iload 6, 2) := dzr zhdX11_soonest_45 11 rfl
theorem dX11_soonest_69 : decode cX11_soonest 69 = .ok (.invokevirtual 196, 3) := dzr zhdX11_soonest_45 12 rfl
theorem dX11_soonest_72 : decode cX11_soonest 72 = .ok (.ifCond .eq 23, 3) := dzr zhdX11_soonest_45 13 rfl
theorem dX11_soonest_75 : decode cX11_soonest 75 = .ok (.aload_n 0, 1) := dzr zhdX11_soonest_45 14 rfl
theorem dX11_soonest_76 : decode cX11_soonest 76 = .ok (.iload 5, 2) := dzr zhdX11_soonest_45 15 rfl
theorem dX11_soonest_78 : decode cX11_soonest 78 = .ok (.iload 6, 2) := dzr zhdX11_soonest_45 16 rfl
theorem dX11_soonest_80 : decode cX11_soonest 80 = .ok (.aload_n 0, 1) := dzr zhdX11_soonest_45 17 rfl
theorem dX11_soonest_81 : decode cX11_soonest 81 = .ok (.getfield 35, 3) := dzr zhdX11_soonest_45 18 rfl
theorem dX11_soonest_84 : decode cX11_soonest 84 = .ok (.getfield 193, 3) := dzr zhdX11_soonest_45 19 rfl
theorem dX11_soonest_87 : decode cX11_soonest 87 = .ok (.iload_n 1, 1) := dzr zhdX11_soonest_45 20 rfl
theorem dX11_soonest_88 : decode cX11_soonest 88 = .ok (.iaload, 1) := dzr zhdX11_soonest_45 21 rfl
theorem dX11_soonest_89 : decode cX11_soonest 89 = .ok (.invokevirtual 272, 3) := dzr zhdX11_soonest_45 22 rfl
theorem dX11_soonest_92 : decode cX11_soonest 92 = .ok (.goto 5, 3) := dzr zhdX11_soonest_45 23 rfl
def ztdX11_soonest_95 : List (Nat × Instr × Nat) := [(95, .iload 4, 2), (97, .istore 7, 2), (99, .iload 7, 2), (101, .iload 4, 2), (103, .if_icmp .ge 16, 3), (106, .iload 7, 2), (108, .istore 4, 2), (110, .bipush 10, 2), (112, .iload 5, 2), (114, .imul, 1), (115, .iload 6, 2), (117, .iadd, 1), (118, .istore_n 3, 1), (119, .iinc 6 1, 3), (122, .goto (-73), 3), (125, .iinc 5 1, 3), (128, .goto (-97), 3), (131, .iload_n 2, 1), (132, .ifCond .eq 8, 3), (135, .iload_n 3, 1), (136, .iconst (-1), 1), (137, .if_icmp .ne 7, 3), (140, .iload_n 3, 1), (141, .goto 5, 3)]
theorem zhdX11_soonest_95 : dzC ztdX11_soonest_95 95 (cX11_soonest.data.toList.drop 95) = true := by decide +kernel
theorem dX11_soonest_95 : decode cX11_soonest 95 = .ok (.iload 4, 2) := dzr zhdX11_soonest_95 0 rfl
theorem dX11_soonest_97 : decode cX11_soonest 97 = .ok (.istore 7, 2) := dzr zhdX11_soonest_95 1 rfl
theorem dX11_soonest_99 : decode cX11_soonest 99 = .ok (.iload 7, 2) := dzr zhdX11_soonest_95 2 rfl
theorem dX11_soonest_101 : decode cX11_soonest 101 = .ok (.iload 4, 2) := dzr zhdX11_soonest_95 3 rfl
theorem dX11_soonest_103 : decode cX11_soonest 103 = .ok (.if_icmp .ge 16, 3) := dzr zhdX11_soonest_95 4 rfl
theorem dX11_soonest_106 : decode cX11_soonest 106 = .ok (.iload 7, 2) := dzr zhdX11_soonest_95 5 rfl
theorem dX11_soonest_108 : decode cX11_soonest 108 = .ok (.istore 4, 2) := dzr zhdX11_soonest_95 6 rfl
theorem dX11_soonest_110 : decode cX11_soonest 110 = .ok (.bipush 10, 2) := dzr zhdX11_soonest_95 7 rfl
theorem dX11_soonest_112 : decode cX11_soonest 112 = .ok (.iload 5, 2) := dzr zhdX11_soonest_95 8 rfl
theorem dX11_soonest_114 : decode cX11_soonest 114 = .ok (.imul, 1) := dzr zhdX11_soonest_95 9 rfl
theorem dX11_soonest_115 : decode cX11_soonest 115 = .ok (.iload 6, 2) := dzr zhdX11_soonest_95 10 rfl
theorem dX11_soonest_117 : decode cX11_soonest 117 = .ok (.iadd, 1) := dzr zhdX11_soonest_95 11 rfl
theorem dX11_soonest_118 : decode cX11_soonest 118 = .ok (.istore_n 3, 1) := dzr zhdX11_soonest_95 12 rfl
theorem dX11_soonest_119 : decode cX11_soonest 119 = .ok (.iinc 6 1, 3) := dzr zhdX11_soonest_95 13 rfl
theorem dX11_soonest_122 : decode cX11_soonest 122 = .ok (.goto (-73), 3) := dzr zhdX11_soonest_95 14 rfl
theorem dX11_soonest_125 : decode cX11_soonest 125 = .ok (.iinc 5 1, 3) := dzr zhdX11_soonest_95 15 rfl
theorem dX11_soonest_128 : decode cX11_soonest 128 = .ok (.goto (-97), 3) := dzr zhdX11_soonest_95 16 rfl
theorem dX11_soonest_131 : decode cX11_soonest 131 = .ok (.iload_n 2, 1) := dzr zhdX11_soonest_95 17 rfl
theorem dX11_soonest_132 : decode cX11_soonest 132 = .ok (.ifCond .eq 8, 3) := dzr zhdX11_soonest_95 18 rfl
theorem dX11_soonest_135 : decode cX11_soonest 135 = .ok (.iload_n 3, 1) := dzr zhdX11_soonest_95 19 rfl
theorem dX11_soonest_136 : decode cX11_soonest 136 = .ok (.iconst (-1), 1) := dzr zhdX11_soonest_95 20 rfl
theorem dX11_soonest_137 : decode cX11_soonest 137 = .ok (.if_icmp .ne 7, 3) := dzr zhdX11_soonest_95 21 rfl
theorem dX11_soonest_140 : decode cX11_soonest 140 = .ok (.iload_n 3, 1) := dzr zhdX11_soonest_95 22 rfl
theorem dX11_soonest_141 : decode cX11_soonest 141 = .ok (.goto 5, 3) := dzr zhdX11_soonest_95 23 rfl
def ztdX11_soonest_144 : List (Nat × Instr × Nat) := [(144, .iload 4, 2), (146, .ireturn, 1)]
theorem zhdX11_soonest_144 : dzC ztdX11_soonest_144 144 (cX11_soonest.data.toList.drop 144) = true := by decide +kernel
theorem dX11_soonest_144 : decode cX11_soonest 144 = .ok (.iload 4, 2) := dzr zhdX11_soonest_144 0 rfl
theorem dX11_soonest_146 : decode cX11_soonest 146 = .ok (.ireturn, 1) := dzr zhdX11_soonest_144 1 rfl
theorem ggX11_pairs_X11_noPeace : GoodIn wsX11_pairs wsX11_noPeace := (bg_up (bg_law (bi_wsL_law0_r23 _ (List.mem_of_getElem? (i := 5) rfl))))
theorem gX11_pairs_X11_noPeace : GoodIn wsX11_pairs (wsV RX11 146 RX11 yX11_noPeace wsX11_noPeace) := goodIn_app (bg_up (bg_cons (bi_wsL_law0_r23 _ (List.mem_of_getElem? (i := 2) rfl)) (bg_cons (bi_wsL_law0_r23 _ (List.mem_of_getElem? (i := 3) rfl)) (bg_cons (bi_wsL_law0_r23 _ (List.mem_of_getElem? (i := 4) rfl)) (bg_cons (bi_wsL_law0_r1 _ (List.mem_of_getElem? (i := 2) rfl)) bg_nil))))) (bg_up (bg_law (bi_wsL_law0_r23 _ (List.mem_of_getElem? (i := 5) rfl))))
theorem ggX11_pairs_X4_solve : GoodIn wsX11_pairs wsX4_solve := (bg_up (bg_law (bi_wsL_law0_r44 _ (List.mem_of_getElem? (i := 16) rfl))))
theorem gX11_pairs_X4_solve : GoodIn wsX11_pairs (wsV RX11 276 RX4 yX4_solve wsX4_solve) := goodIn_app (bg_up (bg_cons (bi_wsL_law0_r44 _ (List.mem_of_getElem? (i := 13) rfl)) (bg_cons (bi_wsL_law0_r44 _ (List.mem_of_getElem? (i := 14) rfl)) (bg_cons (bi_wsL_law0_r44 _ (List.mem_of_getElem? (i := 15) rfl)) (bg_cons (bi_wsL_law0_r3 _ (List.mem_of_getElem? (i := 7) rfl)) bg_nil))))) (bg_up (bg_law (bi_wsL_law0_r44 _ (List.mem_of_getElem? (i := 16) rfl))))
def ztdX11_pairs_0 : List (Nat × Instr × Nat) := [(0, .aload_n 0, 1), (1, .invokevirtual 146, 3), (4, .ifCond .ne 12, 3), (7, .iload_n 1, 1), (8, .ifCond .lt 8, 3), (11, .iload_n 1, 1), (12, .iconst 1, 1), (13, .if_icmp .le 7, 3), (16, .ldc_w 264, 3), (19, .ireturn, 1), (20, .aload_n 0, 1), (21, .getfield 90, 3), (24, .aload_n 0, 1), (25, .getfield 51, 3), (28, .invokevirtual 276, 3), (31, .iload_n 1, 1), (32, .iconst 1, 1), (33, .if_icmp .ne 11, 3), (36, .aload_n 0, 1), (37, .getfield 90, 3), (40, .getfield 279, 3), (43, .ireturn, 1), (44, .aload_n 0, 1), (45, .getfield 90, 3)]
theorem zhdX11_pairs_0 : dzC ztdX11_pairs_0 0 (cX11_pairs.data.toList.drop 0) = true := by decide +kernel
theorem dX11_pairs_0 : decode cX11_pairs 0 = .ok (.aload_n 0, 1) := dzr zhdX11_pairs_0 0 rfl
theorem dX11_pairs_1 : decode cX11_pairs 1 = .ok (.invokevirtual 146, 3) := dzr zhdX11_pairs_0 1 rfl
theorem dX11_pairs_4 : decode cX11_pairs 4 = .ok (.ifCond .ne 12, 3) := dzr zhdX11_pairs_0 2 rfl
theorem dX11_pairs_7 : decode cX11_pairs 7 = .ok (.iload_n 1, 1) := dzr zhdX11_pairs_0 3 rfl
theorem dX11_pairs_8 : decode cX11_pairs 8 = .ok (.ifCond .lt 8, 3) := dzr zhdX11_pairs_0 4 rfl
theorem dX11_pairs_11 : decode cX11_pairs 11 = .ok (.iload_n 1, 1) := dzr zhdX11_pairs_0 5 rfl
theorem dX11_pairs_12 : decode cX11_pairs 12 = .ok (.iconst 1, 1) := dzr zhdX11_pairs_0 6 rfl
theorem dX11_pairs_13 : decode cX11_pairs 13 = .ok (.if_icmp .le 7, 3) := dzr zhdX11_pairs_0 7 rfl
theorem dX11_pairs_16 : decode cX11_pairs 16 = .ok (.ldc_w 264, 3) := dzr zhdX11_pairs_0 8 rfl
theorem dX11_pairs_19 : decode cX11_pairs 19 = .ok (.ireturn, 1) := dzr zhdX11_pairs_0 9 rfl
theorem dX11_pairs_20 : decode cX11_pairs 20 = .ok (.aload_n 0, 1) := dzr zhdX11_pairs_0 10 rfl
theorem dX11_pairs_21 : decode cX11_pairs 21 = .ok (.getfield 90, 3) := dzr zhdX11_pairs_0 11 rfl
theorem dX11_pairs_24 : decode cX11_pairs 24 = .ok (.aload_n 0, 1) := dzr zhdX11_pairs_0 12 rfl
theorem dX11_pairs_25 : decode cX11_pairs 25 = .ok (.getfield 51, 3) := dzr zhdX11_pairs_0 13 rfl
theorem dX11_pairs_28 : decode cX11_pairs 28 = .ok (.invokevirtual 276, 3) := dzr zhdX11_pairs_0 14 rfl
theorem dX11_pairs_31 : decode cX11_pairs 31 = .ok (.iload_n 1, 1) := dzr zhdX11_pairs_0 15 rfl
theorem dX11_pairs_32 : decode cX11_pairs 32 = .ok (.iconst 1, 1) := dzr zhdX11_pairs_0 16 rfl
theorem dX11_pairs_33 : decode cX11_pairs 33 = .ok (.if_icmp .ne 11, 3) := dzr zhdX11_pairs_0 17 rfl
theorem dX11_pairs_36 : decode cX11_pairs 36 = .ok (.aload_n 0, 1) := dzr zhdX11_pairs_0 18 rfl
theorem dX11_pairs_37 : decode cX11_pairs 37 = .ok (.getfield 90, 3) := dzr zhdX11_pairs_0 19 rfl
theorem dX11_pairs_40 : decode cX11_pairs 40 = .ok (.getfield 279, 3) := dzr zhdX11_pairs_0 20 rfl
theorem dX11_pairs_43 : decode cX11_pairs 43 = .ok (.ireturn, 1) := dzr zhdX11_pairs_0 21 rfl
theorem dX11_pairs_44 : decode cX11_pairs 44 = .ok (.aload_n 0, 1) := dzr zhdX11_pairs_0 22 rfl
theorem dX11_pairs_45 : decode cX11_pairs 45 = .ok (.getfield 90, 3) := dzr zhdX11_pairs_0 23 rfl
def ztdX11_pairs_48 : List (Nat × Instr × Nat) := [(48, .getfield 282, 3), (51, .ifCond .ne 7, 3), (54, .iconst (-1), 1), (55, .goto 10, 3), (58, .aload_n 0, 1), (59, .getfield 90, 3), (62, .getfield 283, 3), (65, .ireturn, 1)]
theorem zhdX11_pairs_48 : dzC ztdX11_pairs_48 48 (cX11_pairs.data.toList.drop 48) = true := by decide +kernel
theorem dX11_pairs_48 : decode cX11_pairs 48 = .ok (.getfield 282, 3) := dzr zhdX11_pairs_48 0 rfl
theorem dX11_pairs_51 : decode cX11_pairs 51 = .ok (.ifCond .ne 7, 3) := dzr zhdX11_pairs_48 1 rfl
theorem dX11_pairs_54 : decode cX11_pairs 54 = .ok (.iconst (-1), 1) := dzr zhdX11_pairs_48 2 rfl
theorem dX11_pairs_55 : decode cX11_pairs 55 = .ok (.goto 10, 3) := dzr zhdX11_pairs_48 3 rfl
theorem dX11_pairs_58 : decode cX11_pairs 58 = .ok (.aload_n 0, 1) := dzr zhdX11_pairs_48 4 rfl
theorem dX11_pairs_59 : decode cX11_pairs 59 = .ok (.getfield 90, 3) := dzr zhdX11_pairs_48 5 rfl
theorem dX11_pairs_62 : decode cX11_pairs 62 = .ok (.getfield 283, 3) := dzr zhdX11_pairs_48 6 rfl
theorem dX11_pairs_65 : decode cX11_pairs 65 = .ok (.ireturn, 1) := dzr zhdX11_pairs_48 7 rfl
theorem ggX11_allKnow_X11_noPeace : GoodIn wsX11_allKnow wsX11_noPeace := (bg_up (bg_law (bi_wsL_law0_r23 _ (List.mem_of_getElem? (i := 5) rfl))))
theorem gX11_allKnow_X11_noPeace : GoodIn wsX11_allKnow (wsV RX11 146 RX11 yX11_noPeace wsX11_noPeace) := goodIn_app (bg_up (bg_cons (bi_wsL_law0_r23 _ (List.mem_of_getElem? (i := 2) rfl)) (bg_cons (bi_wsL_law0_r23 _ (List.mem_of_getElem? (i := 3) rfl)) (bg_cons (bi_wsL_law0_r23 _ (List.mem_of_getElem? (i := 4) rfl)) (bg_cons (bi_wsL_law0_r1 _ (List.mem_of_getElem? (i := 2) rfl)) bg_nil))))) (bg_up (bg_law (bi_wsL_law0_r23 _ (List.mem_of_getElem? (i := 5) rfl))))
theorem ggX11_allKnow_X9_copyFrom : GoodIn wsX11_allKnow wsX9_copyFrom := (bg_up (bg_law (bi_wsL_law0_r46 _ (List.mem_of_getElem? (i := 9) rfl))))
theorem gX11_allKnow_X9_copyFrom : GoodIn wsX11_allKnow (wsV RX11 286 RX9 yX9_copyFrom wsX9_copyFrom) := goodIn_app (bg_up (bg_cons (bi_wsL_law0_r46 _ (List.mem_of_getElem? (i := 6) rfl)) (bg_cons (bi_wsL_law0_r46 _ (List.mem_of_getElem? (i := 7) rfl)) (bg_cons (bi_wsL_law0_r46 _ (List.mem_of_getElem? (i := 8) rfl)) (bg_cons (bi_wsL_law0_r2 _ (List.mem_of_getElem? (i := 12) rfl)) bg_nil))))) (bg_up (bg_law (bi_wsL_law0_r46 _ (List.mem_of_getElem? (i := 9) rfl))))
theorem ggX11_allKnow_X9_allKnown : GoodIn wsX11_allKnow wsX9_allKnown := (bg_up (bg_law (bi_wsL_law0_r46 _ (List.mem_of_getElem? (i := 14) rfl))))
theorem gX11_allKnow_X9_allKnown : GoodIn wsX11_allKnow (wsV RX11 289 RX9 yX9_allKnown wsX9_allKnown) := goodIn_app (bg_up (bg_cons (bi_wsL_law0_r46 _ (List.mem_of_getElem? (i := 11) rfl)) (bg_cons (bi_wsL_law0_r46 _ (List.mem_of_getElem? (i := 12) rfl)) (bg_cons (bi_wsL_law0_r46 _ (List.mem_of_getElem? (i := 13) rfl)) (bg_cons (bi_wsL_law0_r2 _ (List.mem_of_getElem? (i := 12) rfl)) bg_nil))))) (bg_up (bg_law (bi_wsL_law0_r46 _ (List.mem_of_getElem? (i := 14) rfl))))
theorem ggX11_allKnow_X4_solve : GoodIn wsX11_allKnow wsX4_solve := (bg_up (bg_law (bi_wsL_law0_r44 _ (List.mem_of_getElem? (i := 16) rfl))))
theorem gX11_allKnow_X4_solve : GoodIn wsX11_allKnow (wsV RX11 276 RX4 yX4_solve wsX4_solve) := goodIn_app (bg_up (bg_cons (bi_wsL_law0_r44 _ (List.mem_of_getElem? (i := 13) rfl)) (bg_cons (bi_wsL_law0_r44 _ (List.mem_of_getElem? (i := 14) rfl)) (bg_cons (bi_wsL_law0_r44 _ (List.mem_of_getElem? (i := 15) rfl)) (bg_cons (bi_wsL_law0_r3 _ (List.mem_of_getElem? (i := 7) rfl)) bg_nil))))) (bg_up (bg_law (bi_wsL_law0_r44 _ (List.mem_of_getElem? (i := 16) rfl))))
theorem ggX11_allKnow_X4_perform : GoodIn wsX11_allKnow wsX4_perform := (bg_up (bg_law (bi_wsL_law0_r46 _ (List.mem_of_getElem? (i := 18) rfl))))
theorem gX11_allKnow_X4_perform : GoodIn wsX11_allKnow (wsV RX11 292 RX4 yX4_perform wsX4_perform) := goodIn_app (bg_up (bg_cons (bi_wsL_law0_r46 _ (List.mem_of_getElem? (i := 15) rfl)) (bg_cons (bi_wsL_law0_r46 _ (List.mem_of_getElem? (i := 16) rfl)) (bg_cons (bi_wsL_law0_r46 _ (List.mem_of_getElem? (i := 17) rfl)) (bg_cons (bi_wsL_law0_r3 _ (List.mem_of_getElem? (i := 7) rfl)) bg_nil))))) (bg_up (bg_law (bi_wsL_law0_r46 _ (List.mem_of_getElem? (i := 18) rfl))))
theorem ggX11_allKnow_X9_day : GoodIn wsX11_allKnow wsX9_day := (bg_up (bg_law (bi_wsL_law0_r29 _ (List.mem_of_getElem? (i := 19) rfl))))
theorem gX11_allKnow_X9_day : GoodIn wsX11_allKnow (wsV RX11 239 RX9 yX9_day wsX9_day) := goodIn_app (bg_up (bg_cons (bi_wsL_law0_r36 _ (List.mem_of_getElem? (i := 19) rfl)) (bg_cons (bi_wsL_law0_r29 _ (List.mem_of_getElem? (i := 17) rfl)) (bg_cons (bi_wsL_law0_r29 _ (List.mem_of_getElem? (i := 18) rfl)) (bg_cons (bi_wsL_law0_r2 _ (List.mem_of_getElem? (i := 12) rfl)) bg_nil))))) (bg_up (bg_law (bi_wsL_law0_r29 _ (List.mem_of_getElem? (i := 19) rfl))))
theorem ggX11_allKnow_X9_cool : GoodIn wsX11_allKnow wsX9_cool := (bg_up (bg_law (bi_wsL_law0_r37 _ (List.mem_of_getElem? (i := 3) rfl))))
theorem gX11_allKnow_X9_cool : GoodIn wsX11_allKnow (wsV RX11 295 RX9 yX9_cool wsX9_cool) := goodIn_app (bg_up (bg_cons (bi_wsL_law0_r37 _ (List.mem_of_getElem? (i := 0) rfl)) (bg_cons (bi_wsL_law0_r37 _ (List.mem_of_getElem? (i := 1) rfl)) (bg_cons (bi_wsL_law0_r37 _ (List.mem_of_getElem? (i := 2) rfl)) (bg_cons (bi_wsL_law0_r2 _ (List.mem_of_getElem? (i := 12) rfl)) bg_nil))))) (bg_up (bg_law (bi_wsL_law0_r37 _ (List.mem_of_getElem? (i := 3) rfl))))
theorem ggX11_allKnow_X9_dawn : GoodIn wsX11_allKnow wsX9_dawn := (bg_up (bg_law (bi_wsL_law0_r38 _ (List.mem_of_getElem? (i := 8) rfl))))
theorem gX11_allKnow_X9_dawn : GoodIn wsX11_allKnow (wsV RX11 298 RX9 yX9_dawn wsX9_dawn) := goodIn_app (bg_up (bg_cons (bi_wsL_law0_r38 _ (List.mem_of_getElem? (i := 5) rfl)) (bg_cons (bi_wsL_law0_r38 _ (List.mem_of_getElem? (i := 6) rfl)) (bg_cons (bi_wsL_law0_r38 _ (List.mem_of_getElem? (i := 7) rfl)) (bg_cons (bi_wsL_law0_r2 _ (List.mem_of_getElem? (i := 12) rfl)) bg_nil))))) (bg_up (bg_law (bi_wsL_law0_r38 _ (List.mem_of_getElem? (i := 8) rfl))))
def ztdX11_allKnow_0 : List (Nat × Instr × Nat) := [(0, .aload_n 0, 1), (1, .invokevirtual 146, 3), (4, .ifCond .eq 5, 3), (7, .iconst (-1), 1), (8, .ireturn, 1), (9, .aload_n 0, 1), (10, .getfield 55, 3), (13, .aload_n 0, 1), (14, .getfield 51, 3), (17, .invokevirtual 286, 3), (20, .iconst 0, 1), (21, .istore_n 1, 1), (22, .iload_n 1, 1), (23, .bipush 30, 2), (25, .if_icmp .gt 70, 3), (28, .aload_n 0, 1), (29, .getfield 55, 3), (32, .invokevirtual 289, 3), (35, .ifCond .eq 5, 3), (38, .iload_n 1, 1), (39, .ireturn, 1), (40, .aload_n 0, 1), (41, .getfield 90, 3), (44, .aload_n 0, 1)]
theorem zhdX11_allKnow_0 : dzC ztdX11_allKnow_0 0 (cX11_allKnow.data.toList.drop 0) = true := by decide +kernel
theorem dX11_allKnow_0 : decode cX11_allKnow 0 = .ok (.aload_n 0, 1) := dzr zhdX11_allKnow_0 0 rfl
theorem dX11_allKnow_1 : decode cX11_allKnow 1 = .ok (.invokevirtual 146, 3) := dzr zhdX11_allKnow_0 1 rfl
theorem dX11_allKnow_4 : decode cX11_allKnow 4 = .ok (.ifCond .eq 5, 3) := dzr zhdX11_allKnow_0 2 rfl
theorem dX11_allKnow_7 : decode cX11_allKnow 7 = .ok (.iconst (-1), 1) := dzr zhdX11_allKnow_0 3 rfl
theorem dX11_allKnow_8 : decode cX11_allKnow 8 = .ok (.ireturn, 1) := dzr zhdX11_allKnow_0 4 rfl
theorem dX11_allKnow_9 : decode cX11_allKnow 9 = .ok (.aload_n 0, 1) := dzr zhdX11_allKnow_0 5 rfl
theorem dX11_allKnow_10 : decode cX11_allKnow 10 = .ok (.getfield 55, 3) := dzr zhdX11_allKnow_0 6 rfl
theorem dX11_allKnow_13 : decode cX11_allKnow 13 = .ok (.aload_n 0, 1) := dzr zhdX11_allKnow_0 7 rfl
theorem dX11_allKnow_14 : decode cX11_allKnow 14 = .ok (.getfield 51, 3) := dzr zhdX11_allKnow_0 8 rfl
theorem dX11_allKnow_17 : decode cX11_allKnow 17 = .ok (.invokevirtual 286, 3) := dzr zhdX11_allKnow_0 9 rfl
theorem dX11_allKnow_20 : decode cX11_allKnow 20 = .ok (.iconst 0, 1) := dzr zhdX11_allKnow_0 10 rfl
theorem dX11_allKnow_21 : decode cX11_allKnow 21 = .ok (.istore_n 1, 1) := dzr zhdX11_allKnow_0 11 rfl
theorem dX11_allKnow_22 : decode cX11_allKnow 22 = .ok (.iload_n 1, 1) := dzr zhdX11_allKnow_0 12 rfl
theorem dX11_allKnow_23 : decode cX11_allKnow 23 = .ok (.bipush 30, 2) := dzr zhdX11_allKnow_0 13 rfl
theorem dX11_allKnow_25 : decode cX11_allKnow 25 = .ok (.if_icmp .gt 70, 3) := dzr zhdX11_allKnow_0 14 rfl
theorem dX11_allKnow_28 : decode cX11_allKnow 28 = .ok (.aload_n 0, 1) := dzr zhdX11_allKnow_0 15 rfl
theorem dX11_allKnow_29 : decode cX11_allKnow 29 = .ok (.getfield 55, 3) := dzr zhdX11_allKnow_0 16 rfl
theorem dX11_allKnow_32 : decode cX11_allKnow 32 = .ok (.invokevirtual 289, 3) := dzr zhdX11_allKnow_0 17 rfl
theorem dX11_allKnow_35 : decode cX11_allKnow 35 = .ok (.ifCond .eq 5, 3) := dzr zhdX11_allKnow_0 18 rfl
theorem dX11_allKnow_38 : decode cX11_allKnow 38 = .ok (.iload_n 1, 1) := dzr zhdX11_allKnow_0 19 rfl
theorem dX11_allKnow_39 : decode cX11_allKnow 39 = .ok (.ireturn, 1) := dzr zhdX11_allKnow_0 20 rfl
theorem dX11_allKnow_40 : decode cX11_allKnow 40 = .ok (.aload_n 0, 1) := dzr zhdX11_allKnow_0 21 rfl
theorem dX11_allKnow_41 : decode cX11_allKnow 41 = .ok (.getfield 90, 3) := dzr zhdX11_allKnow_0 22 rfl
theorem dX11_allKnow_44 : decode cX11_allKnow 44 = .ok (.aload_n 0, 1) := dzr zhdX11_allKnow_0 23 rfl
def ztdX11_allKnow_45 : List (Nat × Instr × Nat) := [(45, .getfield 55, 3), (48, .invokevirtual 276, 3), (51, .aload_n 0, 1), (52, .getfield 90, 3), (55, .aload_n 0, 1), (56, .getfield 55, 3), (59, .invokevirtual 292, 3), (62, .aload_n 0, 1), (63, .getfield 55, 3), (66, .invokevirtual 239, 3), (69, .sipush 999, 3), (72, .if_icmp .ge 17, 3), (75, .aload_n 0, 1), (76, .getfield 55, 3), (79, .invokevirtual 295, 3), (82, .aload_n 0, 1), (83, .getfield 55, 3), (86, .invokevirtual 298, 3), (89, .iinc 1 1, 3), (92, .goto (-70), 3), (95, .iconst (-1), 1), (96, .ireturn, 1)]
theorem zhdX11_allKnow_45 : dzC ztdX11_allKnow_45 45 (cX11_allKnow.data.toList.drop 45) = true := by decide +kernel
theorem dX11_allKnow_45 : decode cX11_allKnow 45 = .ok (.getfield 55, 3) := dzr zhdX11_allKnow_45 0 rfl
theorem dX11_allKnow_48 : decode cX11_allKnow 48 = .ok (.invokevirtual 276, 3) := dzr zhdX11_allKnow_45 1 rfl
theorem dX11_allKnow_51 : decode cX11_allKnow 51 = .ok (.aload_n 0, 1) := dzr zhdX11_allKnow_45 2 rfl
theorem dX11_allKnow_52 : decode cX11_allKnow 52 = .ok (.getfield 90, 3) := dzr zhdX11_allKnow_45 3 rfl
theorem dX11_allKnow_55 : decode cX11_allKnow 55 = .ok (.aload_n 0, 1) := dzr zhdX11_allKnow_45 4 rfl
theorem dX11_allKnow_56 : decode cX11_allKnow 56 = .ok (.getfield 55, 3) := dzr zhdX11_allKnow_45 5 rfl
theorem dX11_allKnow_59 : decode cX11_allKnow 59 = .ok (.invokevirtual 292, 3) := dzr zhdX11_allKnow_45 6 rfl
theorem dX11_allKnow_62 : decode cX11_allKnow 62 = .ok (.aload_n 0, 1) := dzr zhdX11_allKnow_45 7 rfl
theorem dX11_allKnow_63 : decode cX11_allKnow 63 = .ok (.getfield 55, 3) := dzr zhdX11_allKnow_45 8 rfl
theorem dX11_allKnow_66 : decode cX11_allKnow 66 = .ok (.invokevirtual 239, 3) := dzr zhdX11_allKnow_45 9 rfl
theorem dX11_allKnow_69 : decode cX11_allKnow 69 = .ok (.sipush 999, 3) := dzr zhdX11_allKnow_45 10 rfl
theorem dX11_allKnow_72 : decode cX11_allKnow 72 = .ok (.if_icmp .ge 17, 3) := dzr zhdX11_allKnow_45 11 rfl
theorem dX11_allKnow_75 : decode cX11_allKnow 75 = .ok (.aload_n 0, 1) := dzr zhdX11_allKnow_45 12 rfl
theorem dX11_allKnow_76 : decode cX11_allKnow 76 = .ok (.getfield 55, 3) := dzr zhdX11_allKnow_45 13 rfl
theorem dX11_allKnow_79 : decode cX11_allKnow 79 = .ok (.invokevirtual 295, 3) := dzr zhdX11_allKnow_45 14 rfl
theorem dX11_allKnow_82 : decode cX11_allKnow 82 = .ok (.aload_n 0, 1) := dzr zhdX11_allKnow_45 15 rfl
theorem dX11_allKnow_83 : decode cX11_allKnow 83 = .ok (.getfield 55, 3) := dzr zhdX11_allKnow_45 16 rfl
theorem dX11_allKnow_86 : decode cX11_allKnow 86 = .ok (.invokevirtual 298, 3) := dzr zhdX11_allKnow_45 17 rfl
theorem dX11_allKnow_89 : decode cX11_allKnow 89 = .ok (.iinc 1 1, 3) := dzr zhdX11_allKnow_45 18 rfl
theorem dX11_allKnow_92 : decode cX11_allKnow 92 = .ok (.goto (-70), 3) := dzr zhdX11_allKnow_45 19 rfl
theorem dX11_allKnow_95 : decode cX11_allKnow 95 = .ok (.iconst (-1), 1) := dzr zhdX11_allKnow_45 20 rfl
theorem dX11_allKnow_96 : decode cX11_allKnow 96 = .ok (.ireturn, 1) := dzr zhdX11_allKnow_45 21 rfl
theorem ggX11_seen_X5_unlike : GoodIn wsX11_seen wsX5_unlike := (bg_up (bg_law (bi_wsL_law0_r26 _ (List.mem_of_getElem? (i := 21) rfl))))
theorem gX11_seen_X5_unlike : GoodIn wsX11_seen (wsV RX11 196 RX5 yX5_unlike wsX5_unlike) := goodIn_app (bg_up (bg_cons (bi_wsL_law0_r26 _ (List.mem_of_getElem? (i := 18) rfl)) (bg_cons (bi_wsL_law0_r26 _ (List.mem_of_getElem? (i := 19) rfl)) (bg_cons (bi_wsL_law0_r26 _ (List.mem_of_getElem? (i := 20) rfl)) (bg_cons (bi_wsL_law0_r2 _ (List.mem_of_getElem? (i := 4) rfl)) bg_nil))))) (bg_up (bg_law (bi_wsL_law0_r26 _ (List.mem_of_getElem? (i := 21) rfl))))
theorem ggX11_seen_X11_isNoRise : GoodIn wsX11_seen wsX11_isNoRise := (bg_up (bg_law (bi_wsL_law0_r47 _ (List.mem_of_getElem? (i := 14) rfl))))
theorem gX11_seen_X11_isNoRise : GoodIn wsX11_seen (va_wsS RX11 301 yX11_isNoRise wsX11_isNoRise) := goodIn_app (bg_up (bg_cons (bi_wsL_law0_r47 _ (List.mem_of_getElem? (i := 12) rfl)) (bg_cons (bi_wsL_law0_r47 _ (List.mem_of_getElem? (i := 13) rfl)) (bg_cons (bi_wsL_law0_r1 _ (List.mem_of_getElem? (i := 2) rfl)) bg_nil)))) (bg_up (bg_law (bi_wsL_law0_r47 _ (List.mem_of_getElem? (i := 14) rfl))))
theorem ggX11_seen_X8_isFull : GoodIn wsX11_seen wsX8_isFull := (bg_up (bg_law (bi_wsL_law0_r47 _ (List.mem_of_getElem? (i := 18) rfl))))
theorem gX11_seen_X8_isFull : GoodIn wsX11_seen (wsV RX11 304 RX8 yX8_isFull wsX8_isFull) := goodIn_app (bg_up (bg_cons (bi_wsL_law0_r47 _ (List.mem_of_getElem? (i := 15) rfl)) (bg_cons (bi_wsL_law0_r47 _ (List.mem_of_getElem? (i := 16) rfl)) (bg_cons (bi_wsL_law0_r47 _ (List.mem_of_getElem? (i := 17) rfl)) (bg_cons (bi_wsL_law0_r3 _ (List.mem_of_getElem? (i := 3) rfl)) bg_nil))))) (bg_up (bg_law (bi_wsL_law0_r47 _ (List.mem_of_getElem? (i := 18) rfl))))
theorem ggX11_seen_X8_add : GoodIn wsX11_seen wsX8_add := (bg_up (bg_law (bi_wsL_law0_r47 _ (List.mem_of_getElem? (i := 23) rfl))))
theorem gX11_seen_X8_add : GoodIn wsX11_seen (wsV RX11 305 RX8 yX8_add wsX8_add) := goodIn_app (bg_up (bg_cons (bi_wsL_law0_r47 _ (List.mem_of_getElem? (i := 20) rfl)) (bg_cons (bi_wsL_law0_r47 _ (List.mem_of_getElem? (i := 21) rfl)) (bg_cons (bi_wsL_law0_r47 _ (List.mem_of_getElem? (i := 22) rfl)) (bg_cons (bi_wsL_law0_r3 _ (List.mem_of_getElem? (i := 3) rfl)) bg_nil))))) (bg_up (bg_law (bi_wsL_law0_r47 _ (List.mem_of_getElem? (i := 23) rfl))))
def ztdX11_seen_0 : List (Nat × Instr × Nat) := [(0, .aload_n 0, 1), (1, .getfield 35, 3), (4, .iload_n 1, 1), (5, .iload_n 2, 1), (6, .invokevirtual 196, 3), (9, .ifCond .eq 20, 3), (12, .iload_n 3, 1), (13, .invokestatic 301, 3), (16, .ifCond .ne 13, 3), (19, .aload_n 0, 1), (20, .getfield 81, 3), (23, .invokevirtual 304, 3), (26, .ifCond .eq 5, 3), (29, .iconst (-1), 1), (30, .ireturn, 1), (31, .aload_n 0, 1), (32, .getfield 81, 3), (35, .iload_n 1, 1), (36, .iload_n 2, 1), (37, .iload_n 3, 1), (38, .iload 4, 2), (40, .invokevirtual 305, 3), (43, .aload_n 0, 1), (44, .getfield 81, 3)]
theorem zhdX11_seen_0 : dzC ztdX11_seen_0 0 (cX11_seen.data.toList.drop 0) = true := by decide +kernel
theorem dX11_seen_0 : decode cX11_seen 0 = .ok (.aload_n 0, 1) := dzr zhdX11_seen_0 0 rfl
theorem dX11_seen_1 : decode cX11_seen 1 = .ok (.getfield 35, 3) := dzr zhdX11_seen_0 1 rfl
theorem dX11_seen_4 : decode cX11_seen 4 = .ok (.iload_n 1, 1) := dzr zhdX11_seen_0 2 rfl
theorem dX11_seen_5 : decode cX11_seen 5 = .ok (.iload_n 2, 1) := dzr zhdX11_seen_0 3 rfl
theorem dX11_seen_6 : decode cX11_seen 6 = .ok (.invokevirtual 196, 3) := dzr zhdX11_seen_0 4 rfl
theorem dX11_seen_9 : decode cX11_seen 9 = .ok (.ifCond .eq 20, 3) := dzr zhdX11_seen_0 5 rfl
theorem dX11_seen_12 : decode cX11_seen 12 = .ok (.iload_n 3, 1) := dzr zhdX11_seen_0 6 rfl
theorem dX11_seen_13 : decode cX11_seen 13 = .ok (.invokestatic 301, 3) := dzr zhdX11_seen_0 7 rfl
theorem dX11_seen_16 : decode cX11_seen 16 = .ok (.ifCond .ne 13, 3) := dzr zhdX11_seen_0 8 rfl
theorem dX11_seen_19 : decode cX11_seen 19 = .ok (.aload_n 0, 1) := dzr zhdX11_seen_0 9 rfl
theorem dX11_seen_20 : decode cX11_seen 20 = .ok (.getfield 81, 3) := dzr zhdX11_seen_0 10 rfl
theorem dX11_seen_23 : decode cX11_seen 23 = .ok (.invokevirtual 304, 3) := dzr zhdX11_seen_0 11 rfl
theorem dX11_seen_26 : decode cX11_seen 26 = .ok (.ifCond .eq 5, 3) := dzr zhdX11_seen_0 12 rfl
theorem dX11_seen_29 : decode cX11_seen 29 = .ok (.iconst (-1), 1) := dzr zhdX11_seen_0 13 rfl
theorem dX11_seen_30 : decode cX11_seen 30 = .ok (.ireturn, 1) := dzr zhdX11_seen_0 14 rfl
theorem dX11_seen_31 : decode cX11_seen 31 = .ok (.aload_n 0, 1) := dzr zhdX11_seen_0 15 rfl
theorem dX11_seen_32 : decode cX11_seen 32 = .ok (.getfield 81, 3) := dzr zhdX11_seen_0 16 rfl
theorem dX11_seen_35 : decode cX11_seen 35 = .ok (.iload_n 1, 1) := dzr zhdX11_seen_0 17 rfl
theorem dX11_seen_36 : decode cX11_seen 36 = .ok (.iload_n 2, 1) := dzr zhdX11_seen_0 18 rfl
theorem dX11_seen_37 : decode cX11_seen 37 = .ok (.iload_n 3, 1) := dzr zhdX11_seen_0 19 rfl
theorem dX11_seen_38 : decode cX11_seen 38 = .ok (.iload 4, 2) := dzr zhdX11_seen_0 20 rfl
theorem dX11_seen_40 : decode cX11_seen 40 = .ok (.invokevirtual 305, 3) := dzr zhdX11_seen_0 21 rfl
theorem dX11_seen_43 : decode cX11_seen 43 = .ok (.aload_n 0, 1) := dzr zhdX11_seen_0 22 rfl
theorem dX11_seen_44 : decode cX11_seen 44 = .ok (.getfield 81, 3) := dzr zhdX11_seen_0 23 rfl
def ztdX11_seen_47 : List (Nat × Instr × Nat) := [(47, .getfield 309, 3), (50, .ireturn, 1)]
theorem zhdX11_seen_47 : dzC ztdX11_seen_47 47 (cX11_seen.data.toList.drop 47) = true := by decide +kernel
theorem dX11_seen_47 : decode cX11_seen 47 = .ok (.getfield 309, 3) := dzr zhdX11_seen_47 0 rfl
theorem dX11_seen_50 : decode cX11_seen 50 = .ok (.ireturn, 1) := dzr zhdX11_seen_47 1 rfl
theorem ggX11_fits_X5_hasGlove : GoodIn wsX11_fits wsX5_hasGlove := (bg_up (bg_law (bi_wsL_law0_r24 _ (List.mem_of_getElem? (i := 10) rfl))))
theorem gX11_fits_X5_hasGlove : GoodIn wsX11_fits (wsV RX11 155 RX5 yX5_hasGlove wsX5_hasGlove) := goodIn_app (bg_up (bg_cons (bi_wsL_law0_r24 _ (List.mem_of_getElem? (i := 7) rfl)) (bg_cons (bi_wsL_law0_r24 _ (List.mem_of_getElem? (i := 8) rfl)) (bg_cons (bi_wsL_law0_r24 _ (List.mem_of_getElem? (i := 9) rfl)) (bg_cons (bi_wsL_law0_r2 _ (List.mem_of_getElem? (i := 4) rfl)) bg_nil))))) (bg_up (bg_law (bi_wsL_law0_r24 _ (List.mem_of_getElem? (i := 10) rfl))))
theorem ggX11_fits_X8_allow : GoodIn wsX11_fits wsX8_allow := (bg_up (bg_law (bi_wsL_law0_r48 _ (List.mem_of_getElem? (i := 11) rfl))))
theorem gX11_fits_X8_allow : GoodIn wsX11_fits (wsV RX11 310 RX8 yX8_allow wsX8_allow) := goodIn_app (bg_up (bg_cons (bi_wsL_law0_r48 _ (List.mem_of_getElem? (i := 8) rfl)) (bg_cons (bi_wsL_law0_r48 _ (List.mem_of_getElem? (i := 9) rfl)) (bg_cons (bi_wsL_law0_r48 _ (List.mem_of_getElem? (i := 10) rfl)) (bg_cons (bi_wsL_law0_r3 _ (List.mem_of_getElem? (i := 3) rfl)) bg_nil))))) (bg_up (bg_law (bi_wsL_law0_r48 _ (List.mem_of_getElem? (i := 11) rfl))))
def ztdX11_fits_0 : List (Nat × Instr × Nat) := [(0, .aload_n 0, 1), (1, .getfield 35, 3), (4, .iload_n 1, 1), (5, .invokevirtual 155, 3), (8, .ifCond .eq 8, 3), (11, .iload_n 2, 1), (12, .iconst (-1), 1), (13, .if_icmp .ge 5, 3), (16, .iconst (-1), 1), (17, .ireturn, 1), (18, .iconst 0, 1), (19, .istore_n 3, 1), (20, .iconst 0, 1), (21, .istore 4, 2), (23, .iload 4, 2), (25, .bipush 9, 2), (27, .if_icmp .gt 33, 3), (30, .aload_n 0, 1), (31, .getfield 81, 3), (34, .iload_n 1, 1), (35, .iload 4, 2), (37, .invokevirtual 310, 3), (40, .ifCond .eq 14, 3), (43, .iload_n 3, 1)]
theorem zhdX11_fits_0 : dzC ztdX11_fits_0 0 (cX11_fits.data.toList.drop 0) = true := by decide +kernel
theorem dX11_fits_0 : decode cX11_fits 0 = .ok (.aload_n 0, 1) := dzr zhdX11_fits_0 0 rfl
theorem dX11_fits_1 : decode cX11_fits 1 = .ok (.getfield 35, 3) := dzr zhdX11_fits_0 1 rfl
theorem dX11_fits_4 : decode cX11_fits 4 = .ok (.iload_n 1, 1) := dzr zhdX11_fits_0 2 rfl
theorem dX11_fits_5 : decode cX11_fits 5 = .ok (.invokevirtual 155, 3) := dzr zhdX11_fits_0 3 rfl
theorem dX11_fits_8 : decode cX11_fits 8 = .ok (.ifCond .eq 8, 3) := dzr zhdX11_fits_0 4 rfl
theorem dX11_fits_11 : decode cX11_fits 11 = .ok (.iload_n 2, 1) := dzr zhdX11_fits_0 5 rfl
theorem dX11_fits_12 : decode cX11_fits 12 = .ok (.iconst (-1), 1) := dzr zhdX11_fits_0 6 rfl
theorem dX11_fits_13 : decode cX11_fits 13 = .ok (.if_icmp .ge 5, 3) := dzr zhdX11_fits_0 7 rfl
theorem dX11_fits_16 : decode cX11_fits 16 = .ok (.iconst (-1), 1) := dzr zhdX11_fits_0 8 rfl
theorem dX11_fits_17 : decode cX11_fits 17 = .ok (.ireturn, 1) := dzr zhdX11_fits_0 9 rfl
theorem dX11_fits_18 : decode cX11_fits 18 = .ok (.iconst 0, 1) := dzr zhdX11_fits_0 10 rfl
theorem dX11_fits_19 : decode cX11_fits 19 = .ok (.istore_n 3, 1) := dzr zhdX11_fits_0 11 rfl
theorem dX11_fits_20 : decode cX11_fits 20 = .ok (.iconst 0, 1) := dzr zhdX11_fits_0 12 rfl
theorem dX11_fits_21 : decode cX11_fits 21 = .ok (.istore 4, 2) := dzr zhdX11_fits_0 13 rfl
theorem dX11_fits_23 : decode cX11_fits 23 = .ok (.iload 4, 2) := dzr zhdX11_fits_0 14 rfl
theorem dX11_fits_25 : decode cX11_fits 25 = .ok (.bipush 9, 2) := dzr zhdX11_fits_0 15 rfl
theorem dX11_fits_27 : decode cX11_fits 27 = .ok (.if_icmp .gt 33, 3) := dzr zhdX11_fits_0 16 rfl
theorem dX11_fits_30 : decode cX11_fits 30 = .ok (.aload_n 0, 1) := dzr zhdX11_fits_0 17 rfl
theorem dX11_fits_31 : decode cX11_fits 31 = .ok (.getfield 81, 3) := dzr zhdX11_fits_0 18 rfl
theorem dX11_fits_34 : decode cX11_fits 34 = .ok (.iload_n 1, 1) := dzr zhdX11_fits_0 19 rfl
theorem dX11_fits_35 : decode cX11_fits 35 = .ok (.iload 4, 2) := dzr zhdX11_fits_0 20 rfl
theorem dX11_fits_37 : decode cX11_fits 37 = .ok (.invokevirtual 310, 3) := dzr zhdX11_fits_0 21 rfl
theorem dX11_fits_40 : decode cX11_fits 40 = .ok (.ifCond .eq 14, 3) := dzr zhdX11_fits_0 22 rfl
theorem dX11_fits_43 : decode cX11_fits 43 = .ok (.iload_n 3, 1) := dzr zhdX11_fits_0 23 rfl
def ztdX11_fits_44 : List (Nat × Instr × Nat) := [(44, .iload_n 2, 1), (45, .if_icmp .ne 6, 3), (48, .iload 4, 2), (50, .ireturn, 1), (51, .iinc 3 1, 3), (54, .iinc 4 1, 3), (57, .goto (-34), 3), (60, .iload_n 2, 1), (61, .iconst (-1), 1), (62, .if_icmp .ne 7, 3), (65, .iload_n 3, 1), (66, .goto 4, 3), (69, .iconst (-1), 1), (70, .ireturn, 1)]
theorem zhdX11_fits_44 : dzC ztdX11_fits_44 44 (cX11_fits.data.toList.drop 44) = true := by decide +kernel
theorem dX11_fits_44 : decode cX11_fits 44 = .ok (.iload_n 2, 1) := dzr zhdX11_fits_44 0 rfl
theorem dX11_fits_45 : decode cX11_fits 45 = .ok (.if_icmp .ne 6, 3) := dzr zhdX11_fits_44 1 rfl
theorem dX11_fits_48 : decode cX11_fits 48 = .ok (.iload 4, 2) := dzr zhdX11_fits_44 2 rfl
theorem dX11_fits_50 : decode cX11_fits 50 = .ok (.ireturn, 1) := dzr zhdX11_fits_44 3 rfl
theorem dX11_fits_51 : decode cX11_fits 51 = .ok (.iinc 3 1, 3) := dzr zhdX11_fits_44 4 rfl
theorem dX11_fits_54 : decode cX11_fits 54 = .ok (.iinc 4 1, 3) := dzr zhdX11_fits_44 5 rfl
theorem dX11_fits_57 : decode cX11_fits 57 = .ok (.goto (-34), 3) := dzr zhdX11_fits_44 6 rfl
theorem dX11_fits_60 : decode cX11_fits 60 = .ok (.iload_n 2, 1) := dzr zhdX11_fits_44 7 rfl
theorem dX11_fits_61 : decode cX11_fits 61 = .ok (.iconst (-1), 1) := dzr zhdX11_fits_44 8 rfl
theorem dX11_fits_62 : decode cX11_fits 62 = .ok (.if_icmp .ne 7, 3) := dzr zhdX11_fits_44 9 rfl
theorem dX11_fits_65 : decode cX11_fits 65 = .ok (.iload_n 3, 1) := dzr zhdX11_fits_44 10 rfl
theorem dX11_fits_66 : decode cX11_fits 66 = .ok (.goto 4, 3) := dzr zhdX11_fits_44 11 rfl
theorem dX11_fits_69 : decode cX11_fits 69 = .ok (.iconst (-1), 1) := dzr zhdX11_fits_44 12 rfl
theorem dX11_fits_70 : decode cX11_fits 70 = .ok (.ireturn, 1) := dzr zhdX11_fits_44 13 rfl
theorem ggX11_ask_X5_hasGlove : GoodIn wsX11_ask wsX5_hasGlove := (bg_up (bg_law (bi_wsL_law0_r24 _ (List.mem_of_getElem? (i := 10) rfl))))
theorem gX11_ask_X5_hasGlove : GoodIn wsX11_ask (wsV RX11 155 RX5 yX5_hasGlove wsX5_hasGlove) := goodIn_app (bg_up (bg_cons (bi_wsL_law0_r24 _ (List.mem_of_getElem? (i := 7) rfl)) (bg_cons (bi_wsL_law0_r24 _ (List.mem_of_getElem? (i := 8) rfl)) (bg_cons (bi_wsL_law0_r24 _ (List.mem_of_getElem? (i := 9) rfl)) (bg_cons (bi_wsL_law0_r2 _ (List.mem_of_getElem? (i := 4) rfl)) bg_nil))))) (bg_up (bg_law (bi_wsL_law0_r24 _ (List.mem_of_getElem? (i := 10) rfl))))
theorem ggX11_ask_X11_isNoRise : GoodIn wsX11_ask wsX11_isNoRise := (bg_up (bg_law (bi_wsL_law0_r47 _ (List.mem_of_getElem? (i := 14) rfl))))
theorem gX11_ask_X11_isNoRise : GoodIn wsX11_ask (va_wsS RX11 301 yX11_isNoRise wsX11_isNoRise) := goodIn_app (bg_up (bg_cons (bi_wsL_law0_r47 _ (List.mem_of_getElem? (i := 12) rfl)) (bg_cons (bi_wsL_law0_r47 _ (List.mem_of_getElem? (i := 13) rfl)) (bg_cons (bi_wsL_law0_r1 _ (List.mem_of_getElem? (i := 2) rfl)) bg_nil)))) (bg_up (bg_law (bi_wsL_law0_r47 _ (List.mem_of_getElem? (i := 14) rfl))))
theorem ggX11_ask_X8_fitting : GoodIn wsX11_ask wsX8_fitting := (bg_up (bg_law (bi_wsL_law0_r49 _ (List.mem_of_getElem? (i := 16) rfl))))
theorem gX11_ask_X8_fitting : GoodIn wsX11_ask (wsV RX11 313 RX8 yX8_fitting wsX8_fitting) := goodIn_app (bg_up (bg_cons (bi_wsL_law0_r49 _ (List.mem_of_getElem? (i := 13) rfl)) (bg_cons (bi_wsL_law0_r49 _ (List.mem_of_getElem? (i := 14) rfl)) (bg_cons (bi_wsL_law0_r49 _ (List.mem_of_getElem? (i := 15) rfl)) (bg_cons (bi_wsL_law0_r3 _ (List.mem_of_getElem? (i := 3) rfl)) bg_nil))))) (bg_up (bg_law (bi_wsL_law0_r49 _ (List.mem_of_getElem? (i := 16) rfl))))
theorem ggX11_ask_X5_unlike : GoodIn wsX11_ask wsX5_unlike := (bg_up (bg_law (bi_wsL_law0_r26 _ (List.mem_of_getElem? (i := 21) rfl))))
theorem gX11_ask_X5_unlike : GoodIn wsX11_ask (wsV RX11 196 RX5 yX5_unlike wsX5_unlike) := goodIn_app (bg_up (bg_cons (bi_wsL_law0_r26 _ (List.mem_of_getElem? (i := 18) rfl)) (bg_cons (bi_wsL_law0_r26 _ (List.mem_of_getElem? (i := 19) rfl)) (bg_cons (bi_wsL_law0_r26 _ (List.mem_of_getElem? (i := 20) rfl)) (bg_cons (bi_wsL_law0_r2 _ (List.mem_of_getElem? (i := 4) rfl)) bg_nil))))) (bg_up (bg_law (bi_wsL_law0_r26 _ (List.mem_of_getElem? (i := 21) rfl))))
theorem ggX11_ask_X8_gap : GoodIn wsX11_ask wsX8_gap := (bg_up (bg_law (bi_wsL_law0_r49 _ (List.mem_of_getElem? (i := 21) rfl))))
theorem gX11_ask_X8_gap : GoodIn wsX11_ask (wsV RX11 316 RX8 yX8_gap wsX8_gap) := goodIn_app (bg_up (bg_cons (bi_wsL_law0_r49 _ (List.mem_of_getElem? (i := 18) rfl)) (bg_cons (bi_wsL_law0_r49 _ (List.mem_of_getElem? (i := 19) rfl)) (bg_cons (bi_wsL_law0_r49 _ (List.mem_of_getElem? (i := 20) rfl)) (bg_cons (bi_wsL_law0_r3 _ (List.mem_of_getElem? (i := 3) rfl)) bg_nil))))) (bg_up (bg_law (bi_wsL_law0_r49 _ (List.mem_of_getElem? (i := 21) rfl))))
def ztdX11_ask_0 : List (Nat × Instr × Nat) := [(0, .aload_n 0, 1), (1, .getfield 35, 3), (4, .iload_n 1, 1), (5, .invokevirtual 155, 3), (8, .ifCond .eq 10, 3), (11, .iload_n 2, 1), (12, .invokestatic 301, 3), (15, .ifCond .eq 5, 3), (18, .iconst (-1), 1), (19, .ireturn, 1), (20, .aload_n 0, 1), (21, .getfield 81, 3), (24, .iload_n 1, 1), (25, .invokevirtual 313, 3), (28, .istore_n 3, 1), (29, .iload_n 3, 1), (30, .ifCond .ne 5, 3), (33, .iconst (-1), 1), (34, .ireturn, 1), (35, .iconst (-1), 1), (36, .istore 4, 2), (38, .bipush 11, 2), (40, .istore 5, 2), (42, .iconst 0, 1)]
theorem zhdX11_ask_0 : dzC ztdX11_ask_0 0 (cX11_ask.data.toList.drop 0) = true := by decide +kernel
theorem dX11_ask_0 : decode cX11_ask 0 = .ok (.aload_n 0, 1) := dzr zhdX11_ask_0 0 rfl
theorem dX11_ask_1 : decode cX11_ask 1 = .ok (.getfield 35, 3) := dzr zhdX11_ask_0 1 rfl
theorem dX11_ask_4 : decode cX11_ask 4 = .ok (.iload_n 1, 1) := dzr zhdX11_ask_0 2 rfl
theorem dX11_ask_5 : decode cX11_ask 5 = .ok (.invokevirtual 155, 3) := dzr zhdX11_ask_0 3 rfl
theorem dX11_ask_8 : decode cX11_ask 8 = .ok (.ifCond .eq 10, 3) := dzr zhdX11_ask_0 4 rfl
theorem dX11_ask_11 : decode cX11_ask 11 = .ok (.iload_n 2, 1) := dzr zhdX11_ask_0 5 rfl
theorem dX11_ask_12 : decode cX11_ask 12 = .ok (.invokestatic 301, 3) := dzr zhdX11_ask_0 6 rfl
theorem dX11_ask_15 : decode cX11_ask 15 = .ok (.ifCond .eq 5, 3) := dzr zhdX11_ask_0 7 rfl
theorem dX11_ask_18 : decode cX11_ask 18 = .ok (.iconst (-1), 1) := dzr zhdX11_ask_0 8 rfl
theorem dX11_ask_19 : decode cX11_ask 19 = .ok (.ireturn, 1) := dzr zhdX11_ask_0 9 rfl
theorem dX11_ask_20 : decode cX11_ask 20 = .ok (.aload_n 0, 1) := dzr zhdX11_ask_0 10 rfl
theorem dX11_ask_21 : decode cX11_ask 21 = .ok (.getfield 81, 3) := dzr zhdX11_ask_0 11 rfl
theorem dX11_ask_24 : decode cX11_ask 24 = .ok (.iload_n 1, 1) := dzr zhdX11_ask_0 12 rfl
theorem dX11_ask_25 : decode cX11_ask 25 = .ok (.invokevirtual 313, 3) := dzr zhdX11_ask_0 13 rfl
theorem dX11_ask_28 : decode cX11_ask 28 = .ok (.istore_n 3, 1) := dzr zhdX11_ask_0 14 rfl
theorem dX11_ask_29 : decode cX11_ask 29 = .ok (.iload_n 3, 1) := dzr zhdX11_ask_0 15 rfl
theorem dX11_ask_30 : decode cX11_ask 30 = .ok (.ifCond .ne 5, 3) := dzr zhdX11_ask_0 16 rfl
theorem dX11_ask_33 : decode cX11_ask 33 = .ok (.iconst (-1), 1) := dzr zhdX11_ask_0 17 rfl
theorem dX11_ask_34 : decode cX11_ask 34 = .ok (.ireturn, 1) := dzr zhdX11_ask_0 18 rfl
theorem dX11_ask_35 : decode cX11_ask 35 = .ok (.iconst (-1), 1) := dzr zhdX11_ask_0 19 rfl
theorem dX11_ask_36 : decode cX11_ask 36 = .ok (.istore 4, 2) := dzr zhdX11_ask_0 20 rfl
theorem dX11_ask_38 : decode cX11_ask 38 = .ok (.bipush 11, 2) := dzr zhdX11_ask_0 21 rfl
theorem dX11_ask_40 : decode cX11_ask 40 = .ok (.istore 5, 2) := dzr zhdX11_ask_0 22 rfl
theorem dX11_ask_42 : decode cX11_ask 42 = .ok (.iconst 0, 1) := dzr zhdX11_ask_0 23 rfl
def ztdX11_ask_43 : List (Nat × Instr × Nat) := [(43, .istore 6, 2), (45, .iload 6, 2), (47, .aload_n 0, 1), (48, .getfield 35, 3), (51, .getfield 269, 3), (54, .if_icmp .ge 56, 3), (57, .aload_n 0, 1), (58, .getfield 35, 3), (61, .iload_n 1, 1), (62, .iload 6, 2), (64, .invokevirtual 196, 3), (67, .ifCond .eq 18, 3), (70, .aload_n 0, 1), (71, .getfield 81, 3), (74, .iload_n 1, 1), (75, .iload 6, 2), (77, .iload_n 2, 1), (78, .iload_n 3, 1), (79, .invokevirtual 316, 3), (82, .goto 5, 3), (85, .iload 5, 2), (87, .istore 7, 2), (89, .iload 7, 2), (91, .iload 5, 2)]
theorem zhdX11_ask_43 : dzC ztdX11_ask_43 43 (cX11_ask.data.toList.drop 43) = true := by decide +kernel
theorem dX11_ask_43 : decode cX11_ask 43 = .ok (.istore 6, 2) := dzr zhdX11_ask_43 0 rfl
theorem dX11_ask_45 : decode cX11_ask 45 = .ok (.iload 6, 2) := dzr zhdX11_ask_43 1 rfl
theorem dX11_ask_47 : decode cX11_ask 47 = .ok (.aload_n 0, 1) := dzr zhdX11_ask_43 2 rfl
theorem dX11_ask_48 : decode cX11_ask 48 = .ok (.getfield 35, 3) := dzr zhdX11_ask_43 3 rfl
theorem dX11_ask_51 : decode cX11_ask 51 = .ok (.getfield 269, 3) := dzr zhdX11_ask_43 4 rfl
theorem dX11_ask_54 : decode cX11_ask 54 = .ok (.if_icmp .ge 56, 3) := dzr zhdX11_ask_43 5 rfl
theorem dX11_ask_57 : decode cX11_ask 57 = .ok (.aload_n 0, 1) := dzr zhdX11_ask_43 6 rfl
theorem dX11_ask_58 : decode cX11_ask 58 = .ok (.getfield 35, 3) := dzr zhdX11_ask_43 7 rfl
theorem dX11_ask_61 : decode cX11_ask 61 = .ok (.iload_n 1, 1) := dzr zhdX11_ask_43 8 rfl
theorem dX11_ask_62 : decode cX11_ask 62 = .ok (.iload 6, 2) := dzr zhdX11_ask_43 9 rfl
theorem dX11_ask_64 : decode cX11_ask 64 = .ok (.invokevirtual 196, 3) := dzr zhdX11_ask_43 10 rfl
theorem dX11_ask_67 : decode cX11_ask 67 = .ok (.ifCond .eq 18, 3) := dzr zhdX11_ask_43 11 rfl
theorem dX11_ask_70 : decode cX11_ask 70 = .ok (.aload_n 0, 1) := dzr zhdX11_ask_43 12 rfl
theorem dX11_ask_71 : decode cX11_ask 71 = .ok (.getfield 81, 3) := dzr zhdX11_ask_43 13 rfl
theorem dX11_ask_74 : decode cX11_ask 74 = .ok (.iload_n 1, 1) := dzr zhdX11_ask_43 14 rfl
theorem dX11_ask_75 : decode cX11_ask 75 = .ok (.iload 6, 2) := dzr zhdX11_ask_43 15 rfl
theorem dX11_ask_77 : decode cX11_ask 77 = .ok (.iload_n 2, 1) := dzr zhdX11_ask_43 16 rfl
theorem dX11_ask_78 : decode cX11_ask 78 = .ok (.iload_n 3, 1) := dzr zhdX11_ask_43 17 rfl
theorem dX11_ask_79 : decode cX11_ask 79 = .ok (.invokevirtual 316, 3) := dzr zhdX11_ask_43 18 rfl
theorem dX11_ask_82 : decode cX11_ask 82 = .ok (.goto 5, 3) := dzr zhdX11_ask_43 19 rfl
theorem dX11_ask_85 : decode cX11_ask 85 = .ok (.iload 5, 2) := dzr zhdX11_ask_43 20 rfl
theorem dX11_ask_87 : decode cX11_ask 87 = .ok (.istore 7, 2) := dzr zhdX11_ask_43 21 rfl
theorem dX11_ask_89 : decode cX11_ask 89 = .ok (.iload 7, 2) := dzr zhdX11_ask_43 22 rfl
theorem dX11_ask_91 : decode cX11_ask 91 = .ok (.iload 5, 2) := dzr zhdX11_ask_43 23 rfl
def ztdX11_ask_93 : List (Nat × Instr × Nat) := [(93, .if_icmp .ge 11, 3), (96, .iload 7, 2), (98, .istore 5, 2), (100, .iload 6, 2), (102, .istore 4, 2), (104, .iinc 6 1, 3), (107, .goto (-62), 3), (110, .iload 4, 2), (112, .ireturn, 1)]
theorem zhdX11_ask_93 : dzC ztdX11_ask_93 93 (cX11_ask.data.toList.drop 93) = true := by decide +kernel
theorem dX11_ask_93 : decode cX11_ask 93 = .ok (.if_icmp .ge 11, 3) := dzr zhdX11_ask_93 0 rfl
theorem dX11_ask_96 : decode cX11_ask 96 = .ok (.iload 7, 2) := dzr zhdX11_ask_93 1 rfl
theorem dX11_ask_98 : decode cX11_ask 98 = .ok (.istore 5, 2) := dzr zhdX11_ask_93 2 rfl
theorem dX11_ask_100 : decode cX11_ask 100 = .ok (.iload 6, 2) := dzr zhdX11_ask_93 3 rfl
theorem dX11_ask_102 : decode cX11_ask 102 = .ok (.istore 4, 2) := dzr zhdX11_ask_93 4 rfl
theorem dX11_ask_104 : decode cX11_ask 104 = .ok (.iinc 6 1, 3) := dzr zhdX11_ask_93 5 rfl
theorem dX11_ask_107 : decode cX11_ask 107 = .ok (.goto (-62), 3) := dzr zhdX11_ask_93 6 rfl
theorem dX11_ask_110 : decode cX11_ask 110 = .ok (.iload 4, 2) := dzr zhdX11_ask_93 7 rfl
theorem dX11_ask_112 : decode cX11_ask 112 = .ok (.ireturn, 1) := dzr zhdX11_ask_93 8 rfl
theorem ggX11_game_X11_noPeace : GoodIn wsX11_game wsX11_noPeace := (bg_up (bg_law (bi_wsL_law0_r23 _ (List.mem_of_getElem? (i := 5) rfl))))
theorem gX11_game_X11_noPeace : GoodIn wsX11_game (wsV RX11 146 RX11 yX11_noPeace wsX11_noPeace) := goodIn_app (bg_up (bg_cons (bi_wsL_law0_r23 _ (List.mem_of_getElem? (i := 2) rfl)) (bg_cons (bi_wsL_law0_r23 _ (List.mem_of_getElem? (i := 3) rfl)) (bg_cons (bi_wsL_law0_r23 _ (List.mem_of_getElem? (i := 4) rfl)) (bg_cons (bi_wsL_law0_r1 _ (List.mem_of_getElem? (i := 2) rfl)) bg_nil))))) (bg_up (bg_law (bi_wsL_law0_r23 _ (List.mem_of_getElem? (i := 5) rfl))))
theorem ggX11_game_X5_nth : GoodIn wsX11_game wsX5_nth := (bg_up (bg_law (bi_wsL_law0_r50 _ (List.mem_of_getElem? (i := 14) rfl))))
theorem gX11_game_X5_nth : GoodIn wsX11_game (wsV RX11 319 RX5 yX5_nth wsX5_nth) := goodIn_app (bg_up (bg_cons (bi_wsL_law0_r50 _ (List.mem_of_getElem? (i := 11) rfl)) (bg_cons (bi_wsL_law0_r50 _ (List.mem_of_getElem? (i := 12) rfl)) (bg_cons (bi_wsL_law0_r50 _ (List.mem_of_getElem? (i := 13) rfl)) (bg_cons (bi_wsL_law0_r2 _ (List.mem_of_getElem? (i := 4) rfl)) bg_nil))))) (bg_up (bg_law (bi_wsL_law0_r50 _ (List.mem_of_getElem? (i := 14) rfl))))
theorem ggX11_game_X9_gains : GoodIn wsX11_game wsX9_gains := (bg_up (bg_law (bi_wsL_law0_r50 _ (List.mem_of_getElem? (i := 18) rfl))))
theorem gX11_game_X9_gains : GoodIn wsX11_game (wsV RX11 322 RX9 yX9_gains wsX9_gains) := goodIn_app (bg_up (bg_cons (bi_wsL_law0_r50 _ (List.mem_of_getElem? (i := 15) rfl)) (bg_cons (bi_wsL_law0_r50 _ (List.mem_of_getElem? (i := 16) rfl)) (bg_cons (bi_wsL_law0_r50 _ (List.mem_of_getElem? (i := 17) rfl)) (bg_cons (bi_wsL_law0_r2 _ (List.mem_of_getElem? (i := 12) rfl)) bg_nil))))) (bg_up (bg_law (bi_wsL_law0_r50 _ (List.mem_of_getElem? (i := 18) rfl))))
def ztdX11_game_0 : List (Nat × Instr × Nat) := [(0, .aload_n 0, 1), (1, .invokevirtual 146, 3), (4, .ifCond .ne 30, 3), (7, .iload_n 1, 1), (8, .ifCond .lt 26, 3), (11, .iload_n 1, 1), (12, .iconst 4, 1), (13, .if_icmp .gt 21, 3), (16, .iload_n 2, 1), (17, .ifCond .lt 17, 3), (20, .iload_n 2, 1), (21, .iconst 4, 1), (22, .if_icmp .gt 12, 3), (25, .iload_n 3, 1), (26, .ifCond .lt 8, 3), (29, .iload_n 3, 1), (30, .iconst 1, 1), (31, .if_icmp .le 7, 3), (34, .ldc_w 264, 3), (37, .ireturn, 1), (38, .aload_n 0, 1), (39, .getfield 35, 3), (42, .iconst 0, 1), (43, .iload_n 1, 1)]
theorem zhdX11_game_0 : dzC ztdX11_game_0 0 (cX11_game.data.toList.drop 0) = true := by decide +kernel
theorem dX11_game_0 : decode cX11_game 0 = .ok (.aload_n 0, 1) := dzr zhdX11_game_0 0 rfl
theorem dX11_game_1 : decode cX11_game 1 = .ok (.invokevirtual 146, 3) := dzr zhdX11_game_0 1 rfl
theorem dX11_game_4 : decode cX11_game 4 = .ok (.ifCond .ne 30, 3) := dzr zhdX11_game_0 2 rfl
theorem dX11_game_7 : decode cX11_game 7 = .ok (.iload_n 1, 1) := dzr zhdX11_game_0 3 rfl
theorem dX11_game_8 : decode cX11_game 8 = .ok (.ifCond .lt 26, 3) := dzr zhdX11_game_0 4 rfl
theorem dX11_game_11 : decode cX11_game 11 = .ok (.iload_n 1, 1) := dzr zhdX11_game_0 5 rfl
theorem dX11_game_12 : decode cX11_game 12 = .ok (.iconst 4, 1) := dzr zhdX11_game_0 6 rfl
theorem dX11_game_13 : decode cX11_game 13 = .ok (.if_icmp .gt 21, 3) := dzr zhdX11_game_0 7 rfl
theorem dX11_game_16 : decode cX11_game 16 = .ok (.iload_n 2, 1) := dzr zhdX11_game_0 8 rfl
theorem dX11_game_17 : decode cX11_game 17 = .ok (.ifCond .lt 17, 3) := dzr zhdX11_game_0 9 rfl
theorem dX11_game_20 : decode cX11_game 20 = .ok (.iload_n 2, 1) := dzr zhdX11_game_0 10 rfl
theorem dX11_game_21 : decode cX11_game 21 = .ok (.iconst 4, 1) := dzr zhdX11_game_0 11 rfl
theorem dX11_game_22 : decode cX11_game 22 = .ok (.if_icmp .gt 12, 3) := dzr zhdX11_game_0 12 rfl
theorem dX11_game_25 : decode cX11_game 25 = .ok (.iload_n 3, 1) := dzr zhdX11_game_0 13 rfl
theorem dX11_game_26 : decode cX11_game 26 = .ok (.ifCond .lt 8, 3) := dzr zhdX11_game_0 14 rfl
theorem dX11_game_29 : decode cX11_game 29 = .ok (.iload_n 3, 1) := dzr zhdX11_game_0 15 rfl
theorem dX11_game_30 : decode cX11_game 30 = .ok (.iconst 1, 1) := dzr zhdX11_game_0 16 rfl
theorem dX11_game_31 : decode cX11_game 31 = .ok (.if_icmp .le 7, 3) := dzr zhdX11_game_0 17 rfl
theorem dX11_game_34 : decode cX11_game 34 = .ok (.ldc_w 264, 3) := dzr zhdX11_game_0 18 rfl
theorem dX11_game_37 : decode cX11_game 37 = .ok (.ireturn, 1) := dzr zhdX11_game_0 19 rfl
theorem dX11_game_38 : decode cX11_game 38 = .ok (.aload_n 0, 1) := dzr zhdX11_game_0 20 rfl
theorem dX11_game_39 : decode cX11_game 39 = .ok (.getfield 35, 3) := dzr zhdX11_game_0 21 rfl
theorem dX11_game_42 : decode cX11_game 42 = .ok (.iconst 0, 1) := dzr zhdX11_game_0 22 rfl
theorem dX11_game_43 : decode cX11_game 43 = .ok (.iload_n 1, 1) := dzr zhdX11_game_0 23 rfl
def ztdX11_game_44 : List (Nat × Instr × Nat) := [(44, .invokevirtual 319, 3), (47, .istore 4, 2), (49, .aload_n 0, 1), (50, .getfield 35, 3), (53, .iconst 1, 1), (54, .iload_n 2, 1), (55, .invokevirtual 319, 3), (58, .istore 5, 2), (60, .iload_n 3, 1), (61, .ifCond .ne 17, 3), (64, .aload_n 0, 1), (65, .getfield 51, 3), (68, .iload 4, 2), (70, .iload 5, 2), (72, .invokevirtual 322, 3), (75, .goto 14, 3), (78, .aload_n 0, 1), (79, .getfield 51, 3), (82, .iload 5, 2), (84, .iload 4, 2), (86, .invokevirtual 322, 3), (89, .ireturn, 1)]
theorem zhdX11_game_44 : dzC ztdX11_game_44 44 (cX11_game.data.toList.drop 44) = true := by decide +kernel
theorem dX11_game_44 : decode cX11_game 44 = .ok (.invokevirtual 319, 3) := dzr zhdX11_game_44 0 rfl
theorem dX11_game_47 : decode cX11_game 47 = .ok (.istore 4, 2) := dzr zhdX11_game_44 1 rfl
theorem dX11_game_49 : decode cX11_game 49 = .ok (.aload_n 0, 1) := dzr zhdX11_game_44 2 rfl
theorem dX11_game_50 : decode cX11_game 50 = .ok (.getfield 35, 3) := dzr zhdX11_game_44 3 rfl
theorem dX11_game_53 : decode cX11_game 53 = .ok (.iconst 1, 1) := dzr zhdX11_game_44 4 rfl
theorem dX11_game_54 : decode cX11_game 54 = .ok (.iload_n 2, 1) := dzr zhdX11_game_44 5 rfl
theorem dX11_game_55 : decode cX11_game 55 = .ok (.invokevirtual 319, 3) := dzr zhdX11_game_44 6 rfl
theorem dX11_game_58 : decode cX11_game 58 = .ok (.istore 5, 2) := dzr zhdX11_game_44 7 rfl
theorem dX11_game_60 : decode cX11_game 60 = .ok (.iload_n 3, 1) := dzr zhdX11_game_44 8 rfl
theorem dX11_game_61 : decode cX11_game 61 = .ok (.ifCond .ne 17, 3) := dzr zhdX11_game_44 9 rfl
theorem dX11_game_64 : decode cX11_game 64 = .ok (.aload_n 0, 1) := dzr zhdX11_game_44 10 rfl
theorem dX11_game_65 : decode cX11_game 65 = .ok (.getfield 51, 3) := dzr zhdX11_game_44 11 rfl
theorem dX11_game_68 : decode cX11_game 68 = .ok (.iload 4, 2) := dzr zhdX11_game_44 12 rfl
theorem dX11_game_70 : decode cX11_game 70 = .ok (.iload 5, 2) := dzr zhdX11_game_44 13 rfl
theorem dX11_game_72 : decode cX11_game 72 = .ok (.invokevirtual 322, 3) := dzr zhdX11_game_44 14 rfl
theorem dX11_game_75 : decode cX11_game 75 = .ok (.goto 14, 3) := dzr zhdX11_game_44 15 rfl
theorem dX11_game_78 : decode cX11_game 78 = .ok (.aload_n 0, 1) := dzr zhdX11_game_44 16 rfl
theorem dX11_game_79 : decode cX11_game 79 = .ok (.getfield 51, 3) := dzr zhdX11_game_44 17 rfl
theorem dX11_game_82 : decode cX11_game 82 = .ok (.iload 5, 2) := dzr zhdX11_game_44 18 rfl
theorem dX11_game_84 : decode cX11_game 84 = .ok (.iload 4, 2) := dzr zhdX11_game_44 19 rfl
theorem dX11_game_86 : decode cX11_game 86 = .ok (.invokevirtual 322, 3) := dzr zhdX11_game_44 20 rfl
theorem dX11_game_89 : decode cX11_game 89 = .ok (.ireturn, 1) := dzr zhdX11_game_44 21 rfl
theorem ggX11_sure_X11_noPeace : GoodIn wsX11_sure wsX11_noPeace := (bg_up (bg_law (bi_wsL_law0_r23 _ (List.mem_of_getElem? (i := 5) rfl))))
theorem gX11_sure_X11_noPeace : GoodIn wsX11_sure (wsV RX11 146 RX11 yX11_noPeace wsX11_noPeace) := goodIn_app (bg_up (bg_cons (bi_wsL_law0_r23 _ (List.mem_of_getElem? (i := 2) rfl)) (bg_cons (bi_wsL_law0_r23 _ (List.mem_of_getElem? (i := 3) rfl)) (bg_cons (bi_wsL_law0_r23 _ (List.mem_of_getElem? (i := 4) rfl)) (bg_cons (bi_wsL_law0_r1 _ (List.mem_of_getElem? (i := 2) rfl)) bg_nil))))) (bg_up (bg_law (bi_wsL_law0_r23 _ (List.mem_of_getElem? (i := 5) rfl))))
theorem ggX11_sure_X11_leastGain : GoodIn wsX11_sure wsX11_leastGain := (bg_up (bg_law (bi_wsL_law0_r51 _ (List.mem_of_getElem? (i := 17) rfl))))
theorem gX11_sure_X11_leastGain : GoodIn wsX11_sure (wsV RX11 325 RX11 yX11_leastGain wsX11_leastGain) := goodIn_app (bg_up (bg_cons (bi_wsL_law0_r51 _ (List.mem_of_getElem? (i := 14) rfl)) (bg_cons (bi_wsL_law0_r51 _ (List.mem_of_getElem? (i := 15) rfl)) (bg_cons (bi_wsL_law0_r51 _ (List.mem_of_getElem? (i := 16) rfl)) (bg_cons (bi_wsL_law0_r1 _ (List.mem_of_getElem? (i := 2) rfl)) bg_nil))))) (bg_up (bg_law (bi_wsL_law0_r51 _ (List.mem_of_getElem? (i := 17) rfl))))
def ztdX11_sure_0 : List (Nat × Instr × Nat) := [(0, .aload_n 0, 1), (1, .invokevirtual 146, 3), (4, .ifCond .ne 12, 3), (7, .iload_n 1, 1), (8, .ifCond .lt 8, 3), (11, .iload_n 1, 1), (12, .iconst 1, 1), (13, .if_icmp .le 7, 3), (16, .ldc_w 264, 3), (19, .ireturn, 1), (20, .bipush (-20), 2), (22, .istore_n 2, 1), (23, .iconst 0, 1), (24, .istore_n 3, 1), (25, .iload_n 3, 1), (26, .aload_n 0, 1), (27, .getfield 35, 3), (30, .getfield 269, 3), (33, .if_icmp .ge 32, 3), (36, .aload_n 0, 1), (37, .getfield 35, 3), (40, .getfield 166, 3), (43, .iload_n 3, 1), (44, .iaload, 1)]
theorem zhdX11_sure_0 : dzC ztdX11_sure_0 0 (cX11_sure.data.toList.drop 0) = true := by decide +kernel
theorem dX11_sure_0 : decode cX11_sure 0 = .ok (.aload_n 0, 1) := dzr zhdX11_sure_0 0 rfl
theorem dX11_sure_1 : decode cX11_sure 1 = .ok (.invokevirtual 146, 3) := dzr zhdX11_sure_0 1 rfl
theorem dX11_sure_4 : decode cX11_sure 4 = .ok (.ifCond .ne 12, 3) := dzr zhdX11_sure_0 2 rfl
theorem dX11_sure_7 : decode cX11_sure 7 = .ok (.iload_n 1, 1) := dzr zhdX11_sure_0 3 rfl
theorem dX11_sure_8 : decode cX11_sure 8 = .ok (.ifCond .lt 8, 3) := dzr zhdX11_sure_0 4 rfl
theorem dX11_sure_11 : decode cX11_sure 11 = .ok (.iload_n 1, 1) := dzr zhdX11_sure_0 5 rfl
theorem dX11_sure_12 : decode cX11_sure 12 = .ok (.iconst 1, 1) := dzr zhdX11_sure_0 6 rfl
theorem dX11_sure_13 : decode cX11_sure 13 = .ok (.if_icmp .le 7, 3) := dzr zhdX11_sure_0 7 rfl
theorem dX11_sure_16 : decode cX11_sure 16 = .ok (.ldc_w 264, 3) := dzr zhdX11_sure_0 8 rfl
theorem dX11_sure_19 : decode cX11_sure 19 = .ok (.ireturn, 1) := dzr zhdX11_sure_0 9 rfl
theorem dX11_sure_20 : decode cX11_sure 20 = .ok (.bipush (-20), 2) := dzr zhdX11_sure_0 10 rfl
theorem dX11_sure_22 : decode cX11_sure 22 = .ok (.istore_n 2, 1) := dzr zhdX11_sure_0 11 rfl
theorem dX11_sure_23 : decode cX11_sure 23 = .ok (.iconst 0, 1) := dzr zhdX11_sure_0 12 rfl
theorem dX11_sure_24 : decode cX11_sure 24 = .ok (.istore_n 3, 1) := dzr zhdX11_sure_0 13 rfl
theorem dX11_sure_25 : decode cX11_sure 25 = .ok (.iload_n 3, 1) := dzr zhdX11_sure_0 14 rfl
theorem dX11_sure_26 : decode cX11_sure 26 = .ok (.aload_n 0, 1) := dzr zhdX11_sure_0 15 rfl
theorem dX11_sure_27 : decode cX11_sure 27 = .ok (.getfield 35, 3) := dzr zhdX11_sure_0 16 rfl
theorem dX11_sure_30 : decode cX11_sure 30 = .ok (.getfield 269, 3) := dzr zhdX11_sure_0 17 rfl
theorem dX11_sure_33 : decode cX11_sure 33 = .ok (.if_icmp .ge 32, 3) := dzr zhdX11_sure_0 18 rfl
theorem dX11_sure_36 : decode cX11_sure 36 = .ok (.aload_n 0, 1) := dzr zhdX11_sure_0 19 rfl
theorem dX11_sure_37 : decode cX11_sure 37 = .ok (.getfield 35, 3) := dzr zhdX11_sure_0 20 rfl
theorem dX11_sure_40 : decode cX11_sure 40 = .ok (.getfield 166, 3) := dzr zhdX11_sure_0 21 rfl
theorem dX11_sure_43 : decode cX11_sure 43 = .ok (.iload_n 3, 1) := dzr zhdX11_sure_0 22 rfl
theorem dX11_sure_44 : decode cX11_sure 44 = .ok (.iaload, 1) := dzr zhdX11_sure_0 23 rfl
def ztdX11_sure_45 : List (Nat × Instr × Nat) := [(45, .iload_n 1, 1), (46, .if_icmp .ne 13, 3), (49, .iload_n 2, 1), (50, .aload_n 0, 1), (51, .iload_n 3, 1), (52, .invokevirtual 325, 3), (55, .invokestatic 328, 3), (58, .istore_n 2, 1), (59, .iinc 3 1, 3), (62, .goto (-37), 3), (65, .iload_n 2, 1), (66, .ireturn, 1)]
theorem zhdX11_sure_45 : dzC ztdX11_sure_45 45 (cX11_sure.data.toList.drop 45) = true := by decide +kernel
theorem dX11_sure_45 : decode cX11_sure 45 = .ok (.iload_n 1, 1) := dzr zhdX11_sure_45 0 rfl
theorem dX11_sure_46 : decode cX11_sure 46 = .ok (.if_icmp .ne 13, 3) := dzr zhdX11_sure_45 1 rfl
theorem dX11_sure_49 : decode cX11_sure 49 = .ok (.iload_n 2, 1) := dzr zhdX11_sure_45 2 rfl
theorem dX11_sure_50 : decode cX11_sure 50 = .ok (.aload_n 0, 1) := dzr zhdX11_sure_45 3 rfl
theorem dX11_sure_51 : decode cX11_sure 51 = .ok (.iload_n 3, 1) := dzr zhdX11_sure_45 4 rfl
theorem dX11_sure_52 : decode cX11_sure 52 = .ok (.invokevirtual 325, 3) := dzr zhdX11_sure_45 5 rfl
theorem dX11_sure_55 : decode cX11_sure 55 = .ok (.invokestatic 328, 3) := dzr zhdX11_sure_45 6 rfl
theorem dX11_sure_58 : decode cX11_sure 58 = .ok (.istore_n 2, 1) := dzr zhdX11_sure_45 7 rfl
theorem dX11_sure_59 : decode cX11_sure 59 = .ok (.iinc 3 1, 3) := dzr zhdX11_sure_45 8 rfl
theorem dX11_sure_62 : decode cX11_sure 62 = .ok (.goto (-37), 3) := dzr zhdX11_sure_45 9 rfl
theorem dX11_sure_65 : decode cX11_sure 65 = .ok (.iload_n 2, 1) := dzr zhdX11_sure_45 10 rfl
theorem dX11_sure_66 : decode cX11_sure 66 = .ok (.ireturn, 1) := dzr zhdX11_sure_45 11 rfl
theorem ggX11_rests_X11_noPeace : GoodIn wsX11_rests wsX11_noPeace := (bg_up (bg_law (bi_wsL_law0_r23 _ (List.mem_of_getElem? (i := 5) rfl))))
theorem gX11_rests_X11_noPeace : GoodIn wsX11_rests (wsV RX11 146 RX11 yX11_noPeace wsX11_noPeace) := goodIn_app (bg_up (bg_cons (bi_wsL_law0_r23 _ (List.mem_of_getElem? (i := 2) rfl)) (bg_cons (bi_wsL_law0_r23 _ (List.mem_of_getElem? (i := 3) rfl)) (bg_cons (bi_wsL_law0_r23 _ (List.mem_of_getElem? (i := 4) rfl)) (bg_cons (bi_wsL_law0_r1 _ (List.mem_of_getElem? (i := 2) rfl)) bg_nil))))) (bg_up (bg_law (bi_wsL_law0_r23 _ (List.mem_of_getElem? (i := 5) rfl))))
theorem ggX11_rests_X5_sizeOf : GoodIn wsX11_rests wsX5_sizeOf := (bg_up (bg_law (bi_wsL_law0_r12 _ (List.mem_of_getElem? (i := 7) rfl))))
theorem gX11_rests_X5_sizeOf : GoodIn wsX11_rests (wsV RX11 333 RX5 yX5_sizeOf wsX5_sizeOf) := goodIn_app (bg_up (bg_cons (bi_wsL_law0_r52 _ (List.mem_of_getElem? (i := 11) rfl)) (bg_cons (bi_wsL_law0_r12 _ (List.mem_of_getElem? (i := 5) rfl)) (bg_cons (bi_wsL_law0_r12 _ (List.mem_of_getElem? (i := 6) rfl)) (bg_cons (bi_wsL_law0_r2 _ (List.mem_of_getElem? (i := 4) rfl)) bg_nil))))) (bg_up (bg_law (bi_wsL_law0_r12 _ (List.mem_of_getElem? (i := 7) rfl))))
theorem ggX11_rests_X5_nth : GoodIn wsX11_rests wsX5_nth := (bg_up (bg_law (bi_wsL_law0_r50 _ (List.mem_of_getElem? (i := 14) rfl))))
theorem gX11_rests_X5_nth : GoodIn wsX11_rests (wsV RX11 319 RX5 yX5_nth wsX5_nth) := goodIn_app (bg_up (bg_cons (bi_wsL_law0_r50 _ (List.mem_of_getElem? (i := 11) rfl)) (bg_cons (bi_wsL_law0_r50 _ (List.mem_of_getElem? (i := 12) rfl)) (bg_cons (bi_wsL_law0_r50 _ (List.mem_of_getElem? (i := 13) rfl)) (bg_cons (bi_wsL_law0_r2 _ (List.mem_of_getElem? (i := 4) rfl)) bg_nil))))) (bg_up (bg_law (bi_wsL_law0_r50 _ (List.mem_of_getElem? (i := 14) rfl))))
theorem ggX11_rests_X11_isRest : GoodIn wsX11_rests wsX11_isRest := (bg_up (bg_law (bi_wsL_law0_r52 _ (List.mem_of_getElem? (i := 15) rfl))))
theorem gX11_rests_X11_isRest : GoodIn wsX11_rests (wsV RX11 336 RX11 yX11_isRest wsX11_isRest) := goodIn_app (bg_up (bg_cons (bi_wsL_law0_r52 _ (List.mem_of_getElem? (i := 12) rfl)) (bg_cons (bi_wsL_law0_r52 _ (List.mem_of_getElem? (i := 13) rfl)) (bg_cons (bi_wsL_law0_r52 _ (List.mem_of_getElem? (i := 14) rfl)) (bg_cons (bi_wsL_law0_r1 _ (List.mem_of_getElem? (i := 2) rfl)) bg_nil))))) (bg_up (bg_law (bi_wsL_law0_r52 _ (List.mem_of_getElem? (i := 15) rfl))))
def ztdX11_rests_0 : List (Nat × Instr × Nat) := [(0, .aload_n 0, 1), (1, .invokevirtual 146, 3), (4, .ifCond .ne 8, 3), (7, .iload_n 1, 1), (8, .iconst (-1), 1), (9, .if_icmp .ge 5, 3), (12, .iconst (-1), 1), (13, .ireturn, 1), (14, .iconst 0, 1), (15, .istore_n 2, 1), (16, .iconst 0, 1), (17, .istore_n 3, 1), (18, .iload_n 3, 1), (19, .aload_n 0, 1), (20, .getfield 35, 3), (23, .iconst 0, 1), (24, .invokevirtual 333, 3), (27, .if_icmp .ge 73, 3), (30, .iconst 0, 1), (31, .istore 4, 2), (33, .iload 4, 2), (35, .aload_n 0, 1), (36, .getfield 35, 3), (39, .iconst 1, 1)]
theorem zhdX11_rests_0 : dzC ztdX11_rests_0 0 (cX11_rests.data.toList.drop 0) = true := by decide +kernel
theorem dX11_rests_0 : decode cX11_rests 0 = .ok (.aload_n 0, 1) := dzr zhdX11_rests_0 0 rfl
theorem dX11_rests_1 : decode cX11_rests 1 = .ok (.invokevirtual 146, 3) := dzr zhdX11_rests_0 1 rfl
theorem dX11_rests_4 : decode cX11_rests 4 = .ok (.ifCond .ne 8, 3) := dzr zhdX11_rests_0 2 rfl
theorem dX11_rests_7 : decode cX11_rests 7 = .ok (.iload_n 1, 1) := dzr zhdX11_rests_0 3 rfl
theorem dX11_rests_8 : decode cX11_rests 8 = .ok (.iconst (-1), 1) := dzr zhdX11_rests_0 4 rfl
theorem dX11_rests_9 : decode cX11_rests 9 = .ok (.if_icmp .ge 5, 3) := dzr zhdX11_rests_0 5 rfl
theorem dX11_rests_12 : decode cX11_rests 12 = .ok (.iconst (-1), 1) := dzr zhdX11_rests_0 6 rfl
theorem dX11_rests_13 : decode cX11_rests 13 = .ok (.ireturn, 1) := dzr zhdX11_rests_0 7 rfl
theorem dX11_rests_14 : decode cX11_rests 14 = .ok (.iconst 0, 1) := dzr zhdX11_rests_0 8 rfl
theorem dX11_rests_15 : decode cX11_rests 15 = .ok (.istore_n 2, 1) := dzr zhdX11_rests_0 9 rfl
theorem dX11_rests_16 : decode cX11_rests 16 = .ok (.iconst 0, 1) := dzr zhdX11_rests_0 10 rfl
theorem dX11_rests_17 : decode cX11_rests 17 = .ok (.istore_n 3, 1) := dzr zhdX11_rests_0 11 rfl
theorem dX11_rests_18 : decode cX11_rests 18 = .ok (.iload_n 3, 1) := dzr zhdX11_rests_0 12 rfl
theorem dX11_rests_19 : decode cX11_rests 19 = .ok (.aload_n 0, 1) := dzr zhdX11_rests_0 13 rfl
theorem dX11_rests_20 : decode cX11_rests 20 = .ok (.getfield 35, 3) := dzr zhdX11_rests_0 14 rfl
theorem dX11_rests_23 : decode cX11_rests 23 = .ok (.iconst 0, 1) := dzr zhdX11_rests_0 15 rfl
theorem dX11_rests_24 : decode cX11_rests 24 = .ok (.invokevirtual 333, 3) := dzr zhdX11_rests_0 16 rfl
theorem dX11_rests_27 : decode cX11_rests 27 = .ok (.if_icmp .ge 73, 3) := dzr zhdX11_rests_0 17 rfl
theorem dX11_rests_30 : decode cX11_rests 30 = .ok (.iconst 0, 1) := dzr zhdX11_rests_0 18 rfl
theorem dX11_rests_31 : decode cX11_rests 31 = .ok (.istore 4, 2) := dzr zhdX11_rests_0 19 rfl
theorem dX11_rests_33 : decode cX11_rests 33 = .ok (.iload 4, 2) := dzr zhdX11_rests_0 20 rfl
theorem dX11_rests_35 : decode cX11_rests 35 = .ok (.aload_n 0, 1) := dzr zhdX11_rests_0 21 rfl
theorem dX11_rests_36 : decode cX11_rests 36 = .ok (.getfield 35, 3) := dzr zhdX11_rests_0 22 rfl
theorem dX11_rests_39 : decode cX11_rests 39 = .ok (.iconst 1, 1) := dzr zhdX11_rests_0 23 rfl
def ztdX11_rests_40 : List (Nat × Instr × Nat) := [(40, .invokevirtual 333, 3), (43, .if_icmp .ge 51, 3), (46, .aload_n 0, 1), (47, .aload_n 0, 1), (48, .getfield 35, 3), (51, .iconst 0, 1), (52, .iload_n 3, 1), (53, .invokevirtual 319, 3), (56, .aload_n 0, 1), (57, .getfield 35, 3), (60, .iconst 1, 1), (61, .iload 4, 2), (63, .invokevirtual 319, 3), (66, .invokevirtual 336, 3), (69, .ifCond .eq 19, 3), (72, .iload_n 2, 1), (73, .iload_n 1, 1), (74, .if_icmp .ne 11, 3), (77, .bipush 10, 2), (79, .iload_n 3, 1), (80, .imul, 1), (81, .iload 4, 2), (83, .iadd, 1), (84, .ireturn, 1)]
theorem zhdX11_rests_40 : dzC ztdX11_rests_40 40 (cX11_rests.data.toList.drop 40) = true := by decide +kernel
theorem dX11_rests_40 : decode cX11_rests 40 = .ok (.invokevirtual 333, 3) := dzr zhdX11_rests_40 0 rfl
theorem dX11_rests_43 : decode cX11_rests 43 = .ok (.if_icmp .ge 51, 3) := dzr zhdX11_rests_40 1 rfl
theorem dX11_rests_46 : decode cX11_rests 46 = .ok (.aload_n 0, 1) := dzr zhdX11_rests_40 2 rfl
theorem dX11_rests_47 : decode cX11_rests 47 = .ok (.aload_n 0, 1) := dzr zhdX11_rests_40 3 rfl
theorem dX11_rests_48 : decode cX11_rests 48 = .ok (.getfield 35, 3) := dzr zhdX11_rests_40 4 rfl
theorem dX11_rests_51 : decode cX11_rests 51 = .ok (.iconst 0, 1) := dzr zhdX11_rests_40 5 rfl
theorem dX11_rests_52 : decode cX11_rests 52 = .ok (.iload_n 3, 1) := dzr zhdX11_rests_40 6 rfl
theorem dX11_rests_53 : decode cX11_rests 53 = .ok (.invokevirtual 319, 3) := dzr zhdX11_rests_40 7 rfl
theorem dX11_rests_56 : decode cX11_rests 56 = .ok (.aload_n 0, 1) := dzr zhdX11_rests_40 8 rfl
theorem dX11_rests_57 : decode cX11_rests 57 = .ok (.getfield 35, 3) := dzr zhdX11_rests_40 9 rfl
theorem dX11_rests_60 : decode cX11_rests 60 = .ok (.iconst 1, 1) := dzr zhdX11_rests_40 10 rfl
theorem dX11_rests_61 : decode cX11_rests 61 = .ok (.iload 4, 2) := dzr zhdX11_rests_40 11 rfl
theorem dX11_rests_63 : decode cX11_rests 63 = .ok (.invokevirtual 319, 3) := dzr zhdX11_rests_40 12 rfl
theorem dX11_rests_66 : decode cX11_rests 66 = .ok (.invokevirtual 336, 3) := dzr zhdX11_rests_40 13 rfl
theorem dX11_rests_69 : decode cX11_rests 69 = .ok (.ifCond .eq 19, 3) := dzr zhdX11_rests_40 14 rfl
theorem dX11_rests_72 : decode cX11_rests 72 = .ok (.iload_n 2, 1) := dzr zhdX11_rests_40 15 rfl
theorem dX11_rests_73 : decode cX11_rests 73 = .ok (.iload_n 1, 1) := dzr zhdX11_rests_40 16 rfl
theorem dX11_rests_74 : decode cX11_rests 74 = .ok (.if_icmp .ne 11, 3) := dzr zhdX11_rests_40 17 rfl
theorem dX11_rests_77 : decode cX11_rests 77 = .ok (.bipush 10, 2) := dzr zhdX11_rests_40 18 rfl
theorem dX11_rests_79 : decode cX11_rests 79 = .ok (.iload_n 3, 1) := dzr zhdX11_rests_40 19 rfl
theorem dX11_rests_80 : decode cX11_rests 80 = .ok (.imul, 1) := dzr zhdX11_rests_40 20 rfl
theorem dX11_rests_81 : decode cX11_rests 81 = .ok (.iload 4, 2) := dzr zhdX11_rests_40 21 rfl
theorem dX11_rests_83 : decode cX11_rests 83 = .ok (.iadd, 1) := dzr zhdX11_rests_40 22 rfl
theorem dX11_rests_84 : decode cX11_rests 84 = .ok (.ireturn, 1) := dzr zhdX11_rests_40 23 rfl
def ztdX11_rests_85 : List (Nat × Instr × Nat) := [(85, .iinc 2 1, 3), (88, .iinc 4 1, 3), (91, .goto (-58), 3), (94, .iinc 3 1, 3), (97, .goto (-79), 3), (100, .iload_n 1, 1), (101, .iconst (-1), 1), (102, .if_icmp .ne 7, 3), (105, .iload_n 2, 1), (106, .goto 4, 3), (109, .iconst (-1), 1), (110, .ireturn, 1)]
theorem zhdX11_rests_85 : dzC ztdX11_rests_85 85 (cX11_rests.data.toList.drop 85) = true := by decide +kernel
theorem dX11_rests_85 : decode cX11_rests 85 = .ok (.iinc 2 1, 3) := dzr zhdX11_rests_85 0 rfl
theorem dX11_rests_88 : decode cX11_rests 88 = .ok (.iinc 4 1, 3) := dzr zhdX11_rests_85 1 rfl
theorem dX11_rests_91 : decode cX11_rests 91 = .ok (.goto (-58), 3) := dzr zhdX11_rests_85 2 rfl
theorem dX11_rests_94 : decode cX11_rests 94 = .ok (.iinc 3 1, 3) := dzr zhdX11_rests_85 3 rfl
theorem dX11_rests_97 : decode cX11_rests 97 = .ok (.goto (-79), 3) := dzr zhdX11_rests_85 4 rfl
theorem dX11_rests_100 : decode cX11_rests 100 = .ok (.iload_n 1, 1) := dzr zhdX11_rests_85 5 rfl
theorem dX11_rests_101 : decode cX11_rests 101 = .ok (.iconst (-1), 1) := dzr zhdX11_rests_85 6 rfl
theorem dX11_rests_102 : decode cX11_rests 102 = .ok (.if_icmp .ne 7, 3) := dzr zhdX11_rests_85 7 rfl
theorem dX11_rests_105 : decode cX11_rests 105 = .ok (.iload_n 2, 1) := dzr zhdX11_rests_85 8 rfl
theorem dX11_rests_106 : decode cX11_rests 106 = .ok (.goto 4, 3) := dzr zhdX11_rests_85 9 rfl
theorem dX11_rests_109 : decode cX11_rests 109 = .ok (.iconst (-1), 1) := dzr zhdX11_rests_85 10 rfl
theorem dX11_rests_110 : decode cX11_rests 110 = .ok (.ireturn, 1) := dzr zhdX11_rests_85 11 rfl
theorem ggX11_odds_X5_hasMatter : GoodIn wsX11_odds wsX5_hasMatter := (bg_up (bg_law (bi_wsL_law0_r26 _ (List.mem_of_getElem? (i := 1) rfl))))
theorem gX11_odds_X5_hasMatter : GoodIn wsX11_odds (wsV RX11 184 RX5 yX5_hasMatter wsX5_hasMatter) := goodIn_app (bg_up (bg_cons (bi_wsL_law0_r25 _ (List.mem_of_getElem? (i := 22) rfl)) (bg_cons (bi_wsL_law0_r25 _ (List.mem_of_getElem? (i := 23) rfl)) (bg_cons (bi_wsL_law0_r26 _ (List.mem_of_getElem? (i := 0) rfl)) (bg_cons (bi_wsL_law0_r2 _ (List.mem_of_getElem? (i := 4) rfl)) bg_nil))))) (bg_up (bg_law (bi_wsL_law0_r26 _ (List.mem_of_getElem? (i := 1) rfl))))
theorem ggX11_odds_X5_unlike : GoodIn wsX11_odds wsX5_unlike := (bg_up (bg_law (bi_wsL_law0_r26 _ (List.mem_of_getElem? (i := 21) rfl))))
theorem gX11_odds_X5_unlike : GoodIn wsX11_odds (wsV RX11 196 RX5 yX5_unlike wsX5_unlike) := goodIn_app (bg_up (bg_cons (bi_wsL_law0_r26 _ (List.mem_of_getElem? (i := 18) rfl)) (bg_cons (bi_wsL_law0_r26 _ (List.mem_of_getElem? (i := 19) rfl)) (bg_cons (bi_wsL_law0_r26 _ (List.mem_of_getElem? (i := 20) rfl)) (bg_cons (bi_wsL_law0_r2 _ (List.mem_of_getElem? (i := 4) rfl)) bg_nil))))) (bg_up (bg_law (bi_wsL_law0_r26 _ (List.mem_of_getElem? (i := 21) rfl))))
theorem ggX11_odds_X7_partsWarm : GoodIn wsX11_odds wsX7_partsWarm := (bg_up (bg_law (bi_wsL_law0_r53 _ (List.mem_of_getElem? (i := 7) rfl))))
theorem gX11_odds_X7_partsWarm : GoodIn wsX11_odds (wsV RX11 339 RX7 yX7_partsWarm wsX7_partsWarm) := goodIn_app (bg_up (bg_cons (bi_wsL_law0_r53 _ (List.mem_of_getElem? (i := 4) rfl)) (bg_cons (bi_wsL_law0_r53 _ (List.mem_of_getElem? (i := 5) rfl)) (bg_cons (bi_wsL_law0_r53 _ (List.mem_of_getElem? (i := 6) rfl)) (bg_cons (bi_wsL_law0_r3 _ (List.mem_of_getElem? (i := 11) rfl)) bg_nil))))) (bg_up (bg_law (bi_wsL_law0_r53 _ (List.mem_of_getElem? (i := 7) rfl))))
def ztdX11_odds_0 : List (Nat × Instr × Nat) := [(0, .aload_n 0, 1), (1, .getfield 35, 3), (4, .iload_n 1, 1), (5, .invokevirtual 184, 3), (8, .ifCond .eq 15, 3), (11, .aload_n 0, 1), (12, .getfield 35, 3), (15, .iload_n 2, 1), (16, .iload_n 3, 1), (17, .invokevirtual 196, 3), (20, .ifCond .ne 5, 3), (23, .iconst (-1), 1), (24, .ireturn, 1), (25, .iload 4, 2), (27, .ifCond .lt 22, 3), (30, .iload 4, 2), (32, .bipush 8, 2), (34, .if_icmp .gt 15, 3), (37, .iload 5, 2), (39, .ifCond .lt 10, 3), (42, .iload 5, 2), (44, .bipush 100, 2), (46, .if_icmp .le 5, 3), (49, .iconst (-1), 1)]
theorem zhdX11_odds_0 : dzC ztdX11_odds_0 0 (cX11_odds.data.toList.drop 0) = true := by decide +kernel
theorem dX11_odds_0 : decode cX11_odds 0 = .ok (.aload_n 0, 1) := dzr zhdX11_odds_0 0 rfl
theorem dX11_odds_1 : decode cX11_odds 1 = .ok (.getfield 35, 3) := dzr zhdX11_odds_0 1 rfl
theorem dX11_odds_4 : decode cX11_odds 4 = .ok (.iload_n 1, 1) := dzr zhdX11_odds_0 2 rfl
theorem dX11_odds_5 : decode cX11_odds 5 = .ok (.invokevirtual 184, 3) := dzr zhdX11_odds_0 3 rfl
theorem dX11_odds_8 : decode cX11_odds 8 = .ok (.ifCond .eq 15, 3) := dzr zhdX11_odds_0 4 rfl
theorem dX11_odds_11 : decode cX11_odds 11 = .ok (.aload_n 0, 1) := dzr zhdX11_odds_0 5 rfl
theorem dX11_odds_12 : decode cX11_odds 12 = .ok (.getfield 35, 3) := dzr zhdX11_odds_0 6 rfl
theorem dX11_odds_15 : decode cX11_odds 15 = .ok (.iload_n 2, 1) := dzr zhdX11_odds_0 7 rfl
theorem dX11_odds_16 : decode cX11_odds 16 = .ok (.iload_n 3, 1) := dzr zhdX11_odds_0 8 rfl
theorem dX11_odds_17 : decode cX11_odds 17 = .ok (.invokevirtual 196, 3) := dzr zhdX11_odds_0 9 rfl
theorem dX11_odds_20 : decode cX11_odds 20 = .ok (.ifCond .ne 5, 3) := dzr zhdX11_odds_0 10 rfl
theorem dX11_odds_23 : decode cX11_odds 23 = .ok (.iconst (-1), 1) := dzr zhdX11_odds_0 11 rfl
theorem dX11_odds_24 : decode cX11_odds 24 = .ok (.ireturn, 1) := dzr zhdX11_odds_0 12 rfl
theorem dX11_odds_25 : decode cX11_odds 25 = .ok (.iload 4, 2) := dzr zhdX11_odds_0 13 rfl
theorem dX11_odds_27 : decode cX11_odds 27 = .ok (.ifCond .lt 22, 3) := dzr zhdX11_odds_0 14 rfl
theorem dX11_odds_30 : decode cX11_odds 30 = .ok (.iload 4, 2) := dzr zhdX11_odds_0 15 rfl
theorem dX11_odds_32 : decode cX11_odds 32 = .ok (.bipush 8, 2) := dzr zhdX11_odds_0 16 rfl
theorem dX11_odds_34 : decode cX11_odds 34 = .ok (.if_icmp .gt 15, 3) := dzr zhdX11_odds_0 17 rfl
theorem dX11_odds_37 : decode cX11_odds 37 = .ok (.iload 5, 2) := dzr zhdX11_odds_0 18 rfl
theorem dX11_odds_39 : decode cX11_odds 39 = .ok (.ifCond .lt 10, 3) := dzr zhdX11_odds_0 19 rfl
theorem dX11_odds_42 : decode cX11_odds 42 = .ok (.iload 5, 2) := dzr zhdX11_odds_0 20 rfl
theorem dX11_odds_44 : decode cX11_odds 44 = .ok (.bipush 100, 2) := dzr zhdX11_odds_0 21 rfl
theorem dX11_odds_46 : decode cX11_odds 46 = .ok (.if_icmp .le 5, 3) := dzr zhdX11_odds_0 22 rfl
theorem dX11_odds_49 : decode cX11_odds 49 = .ok (.iconst (-1), 1) := dzr zhdX11_odds_0 23 rfl
def ztdX11_odds_50 : List (Nat × Instr × Nat) := [(50, .ireturn, 1), (51, .aload_n 0, 1), (52, .getfield 97, 3), (55, .aload_n 0, 1), (56, .getfield 51, 3), (59, .bipush 10, 2), (61, .iload_n 2, 1), (62, .imul, 1), (63, .iload_n 3, 1), (64, .iadd, 1), (65, .aload_n 0, 1), (66, .getfield 35, 3), (69, .getfield 193, 3), (72, .iload_n 1, 1), (73, .iaload, 1), (74, .iload 4, 2), (76, .iload 5, 2), (78, .invokevirtual 339, 3), (81, .ireturn, 1)]
theorem zhdX11_odds_50 : dzC ztdX11_odds_50 50 (cX11_odds.data.toList.drop 50) = true := by decide +kernel
theorem dX11_odds_50 : decode cX11_odds 50 = .ok (.ireturn, 1) := dzr zhdX11_odds_50 0 rfl
theorem dX11_odds_51 : decode cX11_odds 51 = .ok (.aload_n 0, 1) := dzr zhdX11_odds_50 1 rfl
theorem dX11_odds_52 : decode cX11_odds 52 = .ok (.getfield 97, 3) := dzr zhdX11_odds_50 2 rfl
theorem dX11_odds_55 : decode cX11_odds 55 = .ok (.aload_n 0, 1) := dzr zhdX11_odds_50 3 rfl
theorem dX11_odds_56 : decode cX11_odds 56 = .ok (.getfield 51, 3) := dzr zhdX11_odds_50 4 rfl
theorem dX11_odds_59 : decode cX11_odds 59 = .ok (.bipush 10, 2) := dzr zhdX11_odds_50 5 rfl
theorem dX11_odds_61 : decode cX11_odds 61 = .ok (.iload_n 2, 1) := dzr zhdX11_odds_50 6 rfl
theorem dX11_odds_62 : decode cX11_odds 62 = .ok (.imul, 1) := dzr zhdX11_odds_50 7 rfl
theorem dX11_odds_63 : decode cX11_odds 63 = .ok (.iload_n 3, 1) := dzr zhdX11_odds_50 8 rfl
theorem dX11_odds_64 : decode cX11_odds 64 = .ok (.iadd, 1) := dzr zhdX11_odds_50 9 rfl
theorem dX11_odds_65 : decode cX11_odds 65 = .ok (.aload_n 0, 1) := dzr zhdX11_odds_50 10 rfl
theorem dX11_odds_66 : decode cX11_odds 66 = .ok (.getfield 35, 3) := dzr zhdX11_odds_50 11 rfl
theorem dX11_odds_69 : decode cX11_odds 69 = .ok (.getfield 193, 3) := dzr zhdX11_odds_50 12 rfl
theorem dX11_odds_72 : decode cX11_odds 72 = .ok (.iload_n 1, 1) := dzr zhdX11_odds_50 13 rfl
theorem dX11_odds_73 : decode cX11_odds 73 = .ok (.iaload, 1) := dzr zhdX11_odds_50 14 rfl
theorem dX11_odds_74 : decode cX11_odds 74 = .ok (.iload 4, 2) := dzr zhdX11_odds_50 15 rfl
theorem dX11_odds_76 : decode cX11_odds 76 = .ok (.iload 5, 2) := dzr zhdX11_odds_50 16 rfl
theorem dX11_odds_78 : decode cX11_odds 78 = .ok (.invokevirtual 339, 3) := dzr zhdX11_odds_50 17 rfl
theorem dX11_odds_81 : decode cX11_odds 81 = .ok (.ireturn, 1) := dzr zhdX11_odds_50 18 rfl
theorem ggX11_shares_X11_noPeace : GoodIn wsX11_shares wsX11_noPeace := (bg_up (bg_law (bi_wsL_law0_r23 _ (List.mem_of_getElem? (i := 5) rfl))))
theorem gX11_shares_X11_noPeace : GoodIn wsX11_shares (wsV RX11 146 RX11 yX11_noPeace wsX11_noPeace) := goodIn_app (bg_up (bg_cons (bi_wsL_law0_r23 _ (List.mem_of_getElem? (i := 2) rfl)) (bg_cons (bi_wsL_law0_r23 _ (List.mem_of_getElem? (i := 3) rfl)) (bg_cons (bi_wsL_law0_r23 _ (List.mem_of_getElem? (i := 4) rfl)) (bg_cons (bi_wsL_law0_r1 _ (List.mem_of_getElem? (i := 2) rfl)) bg_nil))))) (bg_up (bg_law (bi_wsL_law0_r23 _ (List.mem_of_getElem? (i := 5) rfl))))
theorem ggX11_shares_X9_freeOf : GoodIn wsX11_shares wsX9_freeOf := (bg_up (bg_law (bi_wsL_law0_r54 _ (List.mem_of_getElem? (i := 18) rfl))))
theorem gX11_shares_X9_freeOf : GoodIn wsX11_shares (wsV RX11 343 RX9 yX9_freeOf wsX9_freeOf) := goodIn_app (bg_up (bg_cons (bi_wsL_law0_r54 _ (List.mem_of_getElem? (i := 15) rfl)) (bg_cons (bi_wsL_law0_r54 _ (List.mem_of_getElem? (i := 16) rfl)) (bg_cons (bi_wsL_law0_r54 _ (List.mem_of_getElem? (i := 17) rfl)) (bg_cons (bi_wsL_law0_r2 _ (List.mem_of_getElem? (i := 12) rfl)) bg_nil))))) (bg_up (bg_law (bi_wsL_law0_r54 _ (List.mem_of_getElem? (i := 18) rfl))))
def ztdX11_shares_0 : List (Nat × Instr × Nat) := [(0, .aload_n 0, 1), (1, .invokevirtual 146, 3), (4, .ifCond .ne 23, 3), (7, .iload_n 1, 1), (8, .ifCond .lt 19, 3), (11, .iload_n 1, 1), (12, .iconst 1, 1), (13, .if_icmp .gt 14, 3), (16, .iload_n 2, 1), (17, .ifCond .lt 10, 3), (20, .iload_n 2, 1), (21, .sipush 999, 3), (24, .if_icmp .le 5, 3), (27, .iconst (-1), 1), (28, .ireturn, 1), (29, .aload_n 0, 1), (30, .getfield 51, 3), (33, .iconst 0, 1), (34, .invokevirtual 343, 3), (37, .aload_n 0, 1), (38, .getfield 51, 3), (41, .iconst 1, 1), (42, .invokevirtual 343, 3), (45, .iadd, 1)]
theorem zhdX11_shares_0 : dzC ztdX11_shares_0 0 (cX11_shares.data.toList.drop 0) = true := by decide +kernel
theorem dX11_shares_0 : decode cX11_shares 0 = .ok (.aload_n 0, 1) := dzr zhdX11_shares_0 0 rfl
theorem dX11_shares_1 : decode cX11_shares 1 = .ok (.invokevirtual 146, 3) := dzr zhdX11_shares_0 1 rfl
theorem dX11_shares_4 : decode cX11_shares 4 = .ok (.ifCond .ne 23, 3) := dzr zhdX11_shares_0 2 rfl
theorem dX11_shares_7 : decode cX11_shares 7 = .ok (.iload_n 1, 1) := dzr zhdX11_shares_0 3 rfl
theorem dX11_shares_8 : decode cX11_shares 8 = .ok (.ifCond .lt 19, 3) := dzr zhdX11_shares_0 4 rfl
theorem dX11_shares_11 : decode cX11_shares 11 = .ok (.iload_n 1, 1) := dzr zhdX11_shares_0 5 rfl
theorem dX11_shares_12 : decode cX11_shares 12 = .ok (.iconst 1, 1) := dzr zhdX11_shares_0 6 rfl
theorem dX11_shares_13 : decode cX11_shares 13 = .ok (.if_icmp .gt 14, 3) := dzr zhdX11_shares_0 7 rfl
theorem dX11_shares_16 : decode cX11_shares 16 = .ok (.iload_n 2, 1) := dzr zhdX11_shares_0 8 rfl
theorem dX11_shares_17 : decode cX11_shares 17 = .ok (.ifCond .lt 10, 3) := dzr zhdX11_shares_0 9 rfl
theorem dX11_shares_20 : decode cX11_shares 20 = .ok (.iload_n 2, 1) := dzr zhdX11_shares_0 10 rfl
theorem dX11_shares_21 : decode cX11_shares 21 = .ok (.sipush 999, 3) := dzr zhdX11_shares_0 11 rfl
theorem dX11_shares_24 : decode cX11_shares 24 = .ok (.if_icmp .le 5, 3) := dzr zhdX11_shares_0 12 rfl
theorem dX11_shares_27 : decode cX11_shares 27 = .ok (.iconst (-1), 1) := dzr zhdX11_shares_0 13 rfl
theorem dX11_shares_28 : decode cX11_shares 28 = .ok (.ireturn, 1) := dzr zhdX11_shares_0 14 rfl
theorem dX11_shares_29 : decode cX11_shares 29 = .ok (.aload_n 0, 1) := dzr zhdX11_shares_0 15 rfl
theorem dX11_shares_30 : decode cX11_shares 30 = .ok (.getfield 51, 3) := dzr zhdX11_shares_0 16 rfl
theorem dX11_shares_33 : decode cX11_shares 33 = .ok (.iconst 0, 1) := dzr zhdX11_shares_0 17 rfl
theorem dX11_shares_34 : decode cX11_shares 34 = .ok (.invokevirtual 343, 3) := dzr zhdX11_shares_0 18 rfl
theorem dX11_shares_37 : decode cX11_shares 37 = .ok (.aload_n 0, 1) := dzr zhdX11_shares_0 19 rfl
theorem dX11_shares_38 : decode cX11_shares 38 = .ok (.getfield 51, 3) := dzr zhdX11_shares_0 20 rfl
theorem dX11_shares_41 : decode cX11_shares 41 = .ok (.iconst 1, 1) := dzr zhdX11_shares_0 21 rfl
theorem dX11_shares_42 : decode cX11_shares 42 = .ok (.invokevirtual 343, 3) := dzr zhdX11_shares_0 22 rfl
theorem dX11_shares_45 : decode cX11_shares 45 = .ok (.iadd, 1) := dzr zhdX11_shares_0 23 rfl
def ztdX11_shares_46 : List (Nat × Instr × Nat) := [(46, .istore_n 3, 1), (47, .iload_n 3, 1), (48, .ifCond .ne 7, 3), (51, .iconst 0, 1), (52, .goto 15, 3), (55, .iload_n 2, 1), (56, .aload_n 0, 1), (57, .getfield 51, 3), (60, .iload_n 1, 1), (61, .invokevirtual 343, 3), (64, .imul, 1), (65, .iload_n 3, 1), (66, .idiv, 1), (67, .ireturn, 1)]
theorem zhdX11_shares_46 : dzC ztdX11_shares_46 46 (cX11_shares.data.toList.drop 46) = true := by decide +kernel
theorem dX11_shares_46 : decode cX11_shares 46 = .ok (.istore_n 3, 1) := dzr zhdX11_shares_46 0 rfl
theorem dX11_shares_47 : decode cX11_shares 47 = .ok (.iload_n 3, 1) := dzr zhdX11_shares_46 1 rfl
theorem dX11_shares_48 : decode cX11_shares 48 = .ok (.ifCond .ne 7, 3) := dzr zhdX11_shares_46 2 rfl
theorem dX11_shares_51 : decode cX11_shares 51 = .ok (.iconst 0, 1) := dzr zhdX11_shares_46 3 rfl
theorem dX11_shares_52 : decode cX11_shares 52 = .ok (.goto 15, 3) := dzr zhdX11_shares_46 4 rfl
theorem dX11_shares_55 : decode cX11_shares 55 = .ok (.iload_n 2, 1) := dzr zhdX11_shares_46 5 rfl
theorem dX11_shares_56 : decode cX11_shares 56 = .ok (.aload_n 0, 1) := dzr zhdX11_shares_46 6 rfl
theorem dX11_shares_57 : decode cX11_shares 57 = .ok (.getfield 51, 3) := dzr zhdX11_shares_46 7 rfl
theorem dX11_shares_60 : decode cX11_shares 60 = .ok (.iload_n 1, 1) := dzr zhdX11_shares_46 8 rfl
theorem dX11_shares_61 : decode cX11_shares 61 = .ok (.invokevirtual 343, 3) := dzr zhdX11_shares_46 9 rfl
theorem dX11_shares_64 : decode cX11_shares 64 = .ok (.imul, 1) := dzr zhdX11_shares_46 10 rfl
theorem dX11_shares_65 : decode cX11_shares 65 = .ok (.iload_n 3, 1) := dzr zhdX11_shares_46 11 rfl
theorem dX11_shares_66 : decode cX11_shares 66 = .ok (.idiv, 1) := dzr zhdX11_shares_46 12 rfl
theorem dX11_shares_67 : decode cX11_shares 67 = .ok (.ireturn, 1) := dzr zhdX11_shares_46 13 rfl
theorem ggX11_most_X11_noPeace : GoodIn wsX11_most wsX11_noPeace := (bg_up (bg_law (bi_wsL_law0_r23 _ (List.mem_of_getElem? (i := 5) rfl))))
theorem gX11_most_X11_noPeace : GoodIn wsX11_most (wsV RX11 146 RX11 yX11_noPeace wsX11_noPeace) := goodIn_app (bg_up (bg_cons (bi_wsL_law0_r23 _ (List.mem_of_getElem? (i := 2) rfl)) (bg_cons (bi_wsL_law0_r23 _ (List.mem_of_getElem? (i := 3) rfl)) (bg_cons (bi_wsL_law0_r23 _ (List.mem_of_getElem? (i := 4) rfl)) (bg_cons (bi_wsL_law0_r1 _ (List.mem_of_getElem? (i := 2) rfl)) bg_nil))))) (bg_up (bg_law (bi_wsL_law0_r23 _ (List.mem_of_getElem? (i := 5) rfl))))
theorem ggX11_most_X9_metBits : GoodIn wsX11_most wsX9_metBits := (bg_up (bg_law (bi_wsL_law0_r37 _ (List.mem_of_getElem? (i := 8) rfl))))
theorem gX11_most_X9_metBits : GoodIn wsX11_most (wsV RX11 346 RX9 yX9_metBits wsX9_metBits) := goodIn_app (bg_up (bg_cons (bi_wsL_law0_r37 _ (List.mem_of_getElem? (i := 5) rfl)) (bg_cons (bi_wsL_law0_r37 _ (List.mem_of_getElem? (i := 6) rfl)) (bg_cons (bi_wsL_law0_r37 _ (List.mem_of_getElem? (i := 7) rfl)) (bg_cons (bi_wsL_law0_r2 _ (List.mem_of_getElem? (i := 12) rfl)) bg_nil))))) (bg_up (bg_law (bi_wsL_law0_r37 _ (List.mem_of_getElem? (i := 8) rfl))))
theorem ggX11_most_X9_signedBits : GoodIn wsX11_most wsX9_signedBits := (bg_up (bg_law (bi_wsL_law0_r55 _ (List.mem_of_getElem? (i := 7) rfl))))
theorem gX11_most_X9_signedBits : GoodIn wsX11_most (wsV RX11 349 RX9 yX9_signedBits wsX9_signedBits) := goodIn_app (bg_up (bg_cons (bi_wsL_law0_r55 _ (List.mem_of_getElem? (i := 4) rfl)) (bg_cons (bi_wsL_law0_r55 _ (List.mem_of_getElem? (i := 5) rfl)) (bg_cons (bi_wsL_law0_r55 _ (List.mem_of_getElem? (i := 6) rfl)) (bg_cons (bi_wsL_law0_r2 _ (List.mem_of_getElem? (i := 12) rfl)) bg_nil))))) (bg_up (bg_law (bi_wsL_law0_r55 _ (List.mem_of_getElem? (i := 7) rfl))))
theorem ggX11_most_X9_warmestPair : GoodIn wsX11_most wsX9_warmestPair := (bg_up (bg_law (bi_wsL_law0_r55 _ (List.mem_of_getElem? (i := 11) rfl))))
theorem gX11_most_X9_warmestPair : GoodIn wsX11_most (wsV RX11 352 RX9 yX9_warmestPair wsX9_warmestPair) := goodIn_app (bg_up (bg_cons (bi_wsL_law0_r55 _ (List.mem_of_getElem? (i := 8) rfl)) (bg_cons (bi_wsL_law0_r55 _ (List.mem_of_getElem? (i := 9) rfl)) (bg_cons (bi_wsL_law0_r55 _ (List.mem_of_getElem? (i := 10) rfl)) (bg_cons (bi_wsL_law0_r2 _ (List.mem_of_getElem? (i := 12) rfl)) bg_nil))))) (bg_up (bg_law (bi_wsL_law0_r55 _ (List.mem_of_getElem? (i := 11) rfl))))
theorem ggX11_most_X9_coldestPair : GoodIn wsX11_most wsX9_coldestPair := (bg_up (bg_law (bi_wsL_law0_r55 _ (List.mem_of_getElem? (i := 20) rfl))))
theorem gX11_most_X9_coldestPair : GoodIn wsX11_most (wsV RX11 355 RX9 yX9_coldestPair wsX9_coldestPair) := goodIn_app (bg_up (bg_cons (bi_wsL_law0_r55 _ (List.mem_of_getElem? (i := 17) rfl)) (bg_cons (bi_wsL_law0_r55 _ (List.mem_of_getElem? (i := 18) rfl)) (bg_cons (bi_wsL_law0_r55 _ (List.mem_of_getElem? (i := 19) rfl)) (bg_cons (bi_wsL_law0_r2 _ (List.mem_of_getElem? (i := 12) rfl)) bg_nil))))) (bg_up (bg_law (bi_wsL_law0_r55 _ (List.mem_of_getElem? (i := 20) rfl))))
theorem ggX11_most_X9_freest : GoodIn wsX11_most wsX9_freest := (bg_up (bg_law (bi_wsL_law0_r56 _ (List.mem_of_getElem? (i := 0) rfl))))
theorem gX11_most_X9_freest : GoodIn wsX11_most (wsV RX11 358 RX9 yX9_freest wsX9_freest) := goodIn_app (bg_up (bg_cons (bi_wsL_law0_r55 _ (List.mem_of_getElem? (i := 21) rfl)) (bg_cons (bi_wsL_law0_r55 _ (List.mem_of_getElem? (i := 22) rfl)) (bg_cons (bi_wsL_law0_r55 _ (List.mem_of_getElem? (i := 23) rfl)) (bg_cons (bi_wsL_law0_r2 _ (List.mem_of_getElem? (i := 12) rfl)) bg_nil))))) (bg_up (bg_law (bi_wsL_law0_r56 _ (List.mem_of_getElem? (i := 0) rfl))))
theorem ggX11_most_X9_stiffest : GoodIn wsX11_most wsX9_stiffest := (bg_up (bg_law (bi_wsL_law0_r56 _ (List.mem_of_getElem? (i := 8) rfl))))
theorem gX11_most_X9_stiffest : GoodIn wsX11_most (wsV RX11 361 RX9 yX9_stiffest wsX9_stiffest) := goodIn_app (bg_up (bg_cons (bi_wsL_law0_r56 _ (List.mem_of_getElem? (i := 5) rfl)) (bg_cons (bi_wsL_law0_r56 _ (List.mem_of_getElem? (i := 6) rfl)) (bg_cons (bi_wsL_law0_r56 _ (List.mem_of_getElem? (i := 7) rfl)) (bg_cons (bi_wsL_law0_r2 _ (List.mem_of_getElem? (i := 12) rfl)) bg_nil))))) (bg_up (bg_law (bi_wsL_law0_r56 _ (List.mem_of_getElem? (i := 8) rfl))))
theorem ggX11_most_X5_heaviest : GoodIn wsX11_most wsX5_heaviest := (bg_up (bg_law (bi_wsL_law0_r56 _ (List.mem_of_getElem? (i := 12) rfl))))
theorem gX11_most_X5_heaviest : GoodIn wsX11_most (wsV RX11 364 RX5 yX5_heaviest wsX5_heaviest) := goodIn_app (bg_up (bg_cons (bi_wsL_law0_r56 _ (List.mem_of_getElem? (i := 9) rfl)) (bg_cons (bi_wsL_law0_r56 _ (List.mem_of_getElem? (i := 10) rfl)) (bg_cons (bi_wsL_law0_r56 _ (List.mem_of_getElem? (i := 11) rfl)) (bg_cons (bi_wsL_law0_r2 _ (List.mem_of_getElem? (i := 4) rfl)) bg_nil))))) (bg_up (bg_law (bi_wsL_law0_r56 _ (List.mem_of_getElem? (i := 12) rfl))))
theorem ggX11_most_X9_bound : GoodIn wsX11_most wsX9_bound := (bg_up (bg_law (bi_wsL_law0_r56 _ (List.mem_of_getElem? (i := 16) rfl))))
theorem gX11_most_X9_bound : GoodIn wsX11_most (wsV RX11 367 RX9 yX9_bound wsX9_bound) := goodIn_app (bg_up (bg_cons (bi_wsL_law0_r56 _ (List.mem_of_getElem? (i := 13) rfl)) (bg_cons (bi_wsL_law0_r56 _ (List.mem_of_getElem? (i := 14) rfl)) (bg_cons (bi_wsL_law0_r56 _ (List.mem_of_getElem? (i := 15) rfl)) (bg_cons (bi_wsL_law0_r2 _ (List.mem_of_getElem? (i := 12) rfl)) bg_nil))))) (bg_up (bg_law (bi_wsL_law0_r56 _ (List.mem_of_getElem? (i := 16) rfl))))
theorem ggX11_most_X9_dueBits : GoodIn wsX11_most wsX9_dueBits := (bg_up (bg_law (bi_wsL_law0_r56 _ (List.mem_of_getElem? (i := 21) rfl))))
theorem gX11_most_X9_dueBits : GoodIn wsX11_most (wsV RX11 370 RX9 yX9_dueBits wsX9_dueBits) := goodIn_app (bg_up (bg_cons (bi_wsL_law0_r56 _ (List.mem_of_getElem? (i := 18) rfl)) (bg_cons (bi_wsL_law0_r56 _ (List.mem_of_getElem? (i := 19) rfl)) (bg_cons (bi_wsL_law0_r56 _ (List.mem_of_getElem? (i := 20) rfl)) (bg_cons (bi_wsL_law0_r2 _ (List.mem_of_getElem? (i := 12) rfl)) bg_nil))))) (bg_up (bg_law (bi_wsL_law0_r56 _ (List.mem_of_getElem? (i := 21) rfl))))
theorem dX11_most_20 : decode cX11_most 20 = .ok (.tableswitch 112 0 7 #[48, 56, 64, 72, 80, 88, 96, 104], 48) := by decide +kernel
def ztdX11_most_0 : List (Nat × Instr × Nat) := [(0, .aload_n 0, 1), (1, .invokevirtual 146, 3), (4, .ifCond .ne 13, 3), (7, .iload_n 1, 1), (8, .ifCond .lt 9, 3), (11, .iload_n 1, 1), (12, .bipush 8, 2), (14, .if_icmp .le 5, 3), (17, .iconst (-1), 1), (18, .ireturn, 1), (19, .iload_n 1, 1), (68, .aload_n 0, 1), (69, .getfield 51, 3), (72, .invokevirtual 346, 3), (75, .ireturn, 1), (76, .aload_n 0, 1), (77, .getfield 51, 3), (80, .invokevirtual 349, 3), (83, .ireturn, 1), (84, .aload_n 0, 1), (85, .getfield 51, 3), (88, .invokevirtual 352, 3), (91, .ireturn, 1), (92, .aload_n 0, 1)]
theorem zhdX11_most_0 : dzC ztdX11_most_0 0 (cX11_most.data.toList.drop 0) = true := by decide +kernel
theorem dX11_most_0 : decode cX11_most 0 = .ok (.aload_n 0, 1) := dzr zhdX11_most_0 0 rfl
theorem dX11_most_1 : decode cX11_most 1 = .ok (.invokevirtual 146, 3) := dzr zhdX11_most_0 1 rfl
theorem dX11_most_4 : decode cX11_most 4 = .ok (.ifCond .ne 13, 3) := dzr zhdX11_most_0 2 rfl
theorem dX11_most_7 : decode cX11_most 7 = .ok (.iload_n 1, 1) := dzr zhdX11_most_0 3 rfl
theorem dX11_most_8 : decode cX11_most 8 = .ok (.ifCond .lt 9, 3) := dzr zhdX11_most_0 4 rfl
theorem dX11_most_11 : decode cX11_most 11 = .ok (.iload_n 1, 1) := dzr zhdX11_most_0 5 rfl
theorem dX11_most_12 : decode cX11_most 12 = .ok (.bipush 8, 2) := dzr zhdX11_most_0 6 rfl
theorem dX11_most_14 : decode cX11_most 14 = .ok (.if_icmp .le 5, 3) := dzr zhdX11_most_0 7 rfl
theorem dX11_most_17 : decode cX11_most 17 = .ok (.iconst (-1), 1) := dzr zhdX11_most_0 8 rfl
theorem dX11_most_18 : decode cX11_most 18 = .ok (.ireturn, 1) := dzr zhdX11_most_0 9 rfl
theorem dX11_most_19 : decode cX11_most 19 = .ok (.iload_n 1, 1) := dzr zhdX11_most_0 10 rfl
theorem dX11_most_68 : decode cX11_most 68 = .ok (.aload_n 0, 1) := dzr zhdX11_most_0 11 rfl
theorem dX11_most_69 : decode cX11_most 69 = .ok (.getfield 51, 3) := dzr zhdX11_most_0 12 rfl
theorem dX11_most_72 : decode cX11_most 72 = .ok (.invokevirtual 346, 3) := dzr zhdX11_most_0 13 rfl
theorem dX11_most_75 : decode cX11_most 75 = .ok (.ireturn, 1) := dzr zhdX11_most_0 14 rfl
theorem dX11_most_76 : decode cX11_most 76 = .ok (.aload_n 0, 1) := dzr zhdX11_most_0 15 rfl
theorem dX11_most_77 : decode cX11_most 77 = .ok (.getfield 51, 3) := dzr zhdX11_most_0 16 rfl
theorem dX11_most_80 : decode cX11_most 80 = .ok (.invokevirtual 349, 3) := dzr zhdX11_most_0 17 rfl
theorem dX11_most_83 : decode cX11_most 83 = .ok (.ireturn, 1) := dzr zhdX11_most_0 18 rfl
theorem dX11_most_84 : decode cX11_most 84 = .ok (.aload_n 0, 1) := dzr zhdX11_most_0 19 rfl
theorem dX11_most_85 : decode cX11_most 85 = .ok (.getfield 51, 3) := dzr zhdX11_most_0 20 rfl
theorem dX11_most_88 : decode cX11_most 88 = .ok (.invokevirtual 352, 3) := dzr zhdX11_most_0 21 rfl
theorem dX11_most_91 : decode cX11_most 91 = .ok (.ireturn, 1) := dzr zhdX11_most_0 22 rfl
theorem dX11_most_92 : decode cX11_most 92 = .ok (.aload_n 0, 1) := dzr zhdX11_most_0 23 rfl
def ztdX11_most_93 : List (Nat × Instr × Nat) := [(93, .getfield 51, 3), (96, .invokevirtual 355, 3), (99, .ireturn, 1), (100, .aload_n 0, 1), (101, .getfield 51, 3), (104, .invokevirtual 358, 3), (107, .ireturn, 1), (108, .aload_n 0, 1), (109, .getfield 51, 3), (112, .invokevirtual 361, 3), (115, .ireturn, 1), (116, .aload_n 0, 1), (117, .getfield 35, 3), (120, .invokevirtual 364, 3), (123, .ireturn, 1), (124, .aload_n 0, 1), (125, .getfield 51, 3), (128, .invokevirtual 367, 3), (131, .ireturn, 1), (132, .aload_n 0, 1), (133, .getfield 51, 3), (136, .invokevirtual 370, 3), (139, .ireturn, 1)]
theorem zhdX11_most_93 : dzC ztdX11_most_93 93 (cX11_most.data.toList.drop 93) = true := by decide +kernel
theorem dX11_most_93 : decode cX11_most 93 = .ok (.getfield 51, 3) := dzr zhdX11_most_93 0 rfl
theorem dX11_most_96 : decode cX11_most 96 = .ok (.invokevirtual 355, 3) := dzr zhdX11_most_93 1 rfl
theorem dX11_most_99 : decode cX11_most 99 = .ok (.ireturn, 1) := dzr zhdX11_most_93 2 rfl
theorem dX11_most_100 : decode cX11_most 100 = .ok (.aload_n 0, 1) := dzr zhdX11_most_93 3 rfl
theorem dX11_most_101 : decode cX11_most 101 = .ok (.getfield 51, 3) := dzr zhdX11_most_93 4 rfl
theorem dX11_most_104 : decode cX11_most 104 = .ok (.invokevirtual 358, 3) := dzr zhdX11_most_93 5 rfl
theorem dX11_most_107 : decode cX11_most 107 = .ok (.ireturn, 1) := dzr zhdX11_most_93 6 rfl
theorem dX11_most_108 : decode cX11_most 108 = .ok (.aload_n 0, 1) := dzr zhdX11_most_93 7 rfl
theorem dX11_most_109 : decode cX11_most 109 = .ok (.getfield 51, 3) := dzr zhdX11_most_93 8 rfl
theorem dX11_most_112 : decode cX11_most 112 = .ok (.invokevirtual 361, 3) := dzr zhdX11_most_93 9 rfl
theorem dX11_most_115 : decode cX11_most 115 = .ok (.ireturn, 1) := dzr zhdX11_most_93 10 rfl
theorem dX11_most_116 : decode cX11_most 116 = .ok (.aload_n 0, 1) := dzr zhdX11_most_93 11 rfl
theorem dX11_most_117 : decode cX11_most 117 = .ok (.getfield 35, 3) := dzr zhdX11_most_93 12 rfl
theorem dX11_most_120 : decode cX11_most 120 = .ok (.invokevirtual 364, 3) := dzr zhdX11_most_93 13 rfl
theorem dX11_most_123 : decode cX11_most 123 = .ok (.ireturn, 1) := dzr zhdX11_most_93 14 rfl
theorem dX11_most_124 : decode cX11_most 124 = .ok (.aload_n 0, 1) := dzr zhdX11_most_93 15 rfl
theorem dX11_most_125 : decode cX11_most 125 = .ok (.getfield 51, 3) := dzr zhdX11_most_93 16 rfl
theorem dX11_most_128 : decode cX11_most 128 = .ok (.invokevirtual 367, 3) := dzr zhdX11_most_93 17 rfl
theorem dX11_most_131 : decode cX11_most 131 = .ok (.ireturn, 1) := dzr zhdX11_most_93 18 rfl
theorem dX11_most_132 : decode cX11_most 132 = .ok (.aload_n 0, 1) := dzr zhdX11_most_93 19 rfl
theorem dX11_most_133 : decode cX11_most 133 = .ok (.getfield 51, 3) := dzr zhdX11_most_93 20 rfl
theorem dX11_most_136 : decode cX11_most 136 = .ok (.invokevirtual 370, 3) := dzr zhdX11_most_93 21 rfl
theorem dX11_most_139 : decode cX11_most 139 = .ok (.ireturn, 1) := dzr zhdX11_most_93 22 rfl
theorem ggX11_allies_X5_hasGlove : GoodIn wsX11_allies wsX5_hasGlove := (bg_up (bg_law (bi_wsL_law0_r24 _ (List.mem_of_getElem? (i := 10) rfl))))
theorem gX11_allies_X5_hasGlove : GoodIn wsX11_allies (wsV RX11 155 RX5 yX5_hasGlove wsX5_hasGlove) := goodIn_app (bg_up (bg_cons (bi_wsL_law0_r24 _ (List.mem_of_getElem? (i := 7) rfl)) (bg_cons (bi_wsL_law0_r24 _ (List.mem_of_getElem? (i := 8) rfl)) (bg_cons (bi_wsL_law0_r24 _ (List.mem_of_getElem? (i := 9) rfl)) (bg_cons (bi_wsL_law0_r2 _ (List.mem_of_getElem? (i := 4) rfl)) bg_nil))))) (bg_up (bg_law (bi_wsL_law0_r24 _ (List.mem_of_getElem? (i := 10) rfl))))
theorem ggX11_allies_X5_unlike : GoodIn wsX11_allies wsX5_unlike := (bg_up (bg_law (bi_wsL_law0_r26 _ (List.mem_of_getElem? (i := 21) rfl))))
theorem gX11_allies_X5_unlike : GoodIn wsX11_allies (wsV RX11 196 RX5 yX5_unlike wsX5_unlike) := goodIn_app (bg_up (bg_cons (bi_wsL_law0_r26 _ (List.mem_of_getElem? (i := 18) rfl)) (bg_cons (bi_wsL_law0_r26 _ (List.mem_of_getElem? (i := 19) rfl)) (bg_cons (bi_wsL_law0_r26 _ (List.mem_of_getElem? (i := 20) rfl)) (bg_cons (bi_wsL_law0_r2 _ (List.mem_of_getElem? (i := 4) rfl)) bg_nil))))) (bg_up (bg_law (bi_wsL_law0_r26 _ (List.mem_of_getElem? (i := 21) rfl))))
theorem ggX11_allies_X5_sameAim : GoodIn wsX11_allies wsX5_sameAim := (bg_up (bg_law (bi_wsL_law0_r30 _ (List.mem_of_getElem? (i := 5) rfl))))
theorem gX11_allies_X5_sameAim : GoodIn wsX11_allies (wsV RX11 373 RX5 yX5_sameAim wsX5_sameAim) := goodIn_app (bg_up (bg_cons (bi_wsL_law0_r58 _ (List.mem_of_getElem? (i := 11) rfl)) (bg_cons (bi_wsL_law0_r30 _ (List.mem_of_getElem? (i := 3) rfl)) (bg_cons (bi_wsL_law0_r30 _ (List.mem_of_getElem? (i := 4) rfl)) (bg_cons (bi_wsL_law0_r2 _ (List.mem_of_getElem? (i := 4) rfl)) bg_nil))))) (bg_up (bg_law (bi_wsL_law0_r30 _ (List.mem_of_getElem? (i := 5) rfl))))
def ztdX11_allies_0 : List (Nat × Instr × Nat) := [(0, .aload_n 0, 1), (1, .getfield 35, 3), (4, .iload_n 1, 1), (5, .invokevirtual 155, 3), (8, .ifCond .ne 5, 3), (11, .iconst (-1), 1), (12, .ireturn, 1), (13, .iconst 0, 1), (14, .istore_n 2, 1), (15, .iconst 0, 1), (16, .istore_n 3, 1), (17, .iload_n 3, 1), (18, .aload_n 0, 1), (19, .getfield 35, 3), (22, .getfield 269, 3), (25, .if_icmp .ge 40, 3), (28, .aload_n 0, 1), (29, .getfield 35, 3), (32, .iload_n 1, 1), (33, .iload_n 3, 1), (34, .invokevirtual 196, 3), (37, .ifCond .eq 22, 3), (40, .aload_n 0, 1), (41, .getfield 35, 3)]
theorem zhdX11_allies_0 : dzC ztdX11_allies_0 0 (cX11_allies.data.toList.drop 0) = true := by decide +kernel
theorem dX11_allies_0 : decode cX11_allies 0 = .ok (.aload_n 0, 1) := dzr zhdX11_allies_0 0 rfl
theorem dX11_allies_1 : decode cX11_allies 1 = .ok (.getfield 35, 3) := dzr zhdX11_allies_0 1 rfl
theorem dX11_allies_4 : decode cX11_allies 4 = .ok (.iload_n 1, 1) := dzr zhdX11_allies_0 2 rfl
theorem dX11_allies_5 : decode cX11_allies 5 = .ok (.invokevirtual 155, 3) := dzr zhdX11_allies_0 3 rfl
theorem dX11_allies_8 : decode cX11_allies 8 = .ok (.ifCond .ne 5, 3) := dzr zhdX11_allies_0 4 rfl
theorem dX11_allies_11 : decode cX11_allies 11 = .ok (.iconst (-1), 1) := dzr zhdX11_allies_0 5 rfl
theorem dX11_allies_12 : decode cX11_allies 12 = .ok (.ireturn, 1) := dzr zhdX11_allies_0 6 rfl
theorem dX11_allies_13 : decode cX11_allies 13 = .ok (.iconst 0, 1) := dzr zhdX11_allies_0 7 rfl
theorem dX11_allies_14 : decode cX11_allies 14 = .ok (.istore_n 2, 1) := dzr zhdX11_allies_0 8 rfl
theorem dX11_allies_15 : decode cX11_allies 15 = .ok (.iconst 0, 1) := dzr zhdX11_allies_0 9 rfl
theorem dX11_allies_16 : decode cX11_allies 16 = .ok (.istore_n 3, 1) := dzr zhdX11_allies_0 10 rfl
theorem dX11_allies_17 : decode cX11_allies 17 = .ok (.iload_n 3, 1) := dzr zhdX11_allies_0 11 rfl
theorem dX11_allies_18 : decode cX11_allies 18 = .ok (.aload_n 0, 1) := dzr zhdX11_allies_0 12 rfl
theorem dX11_allies_19 : decode cX11_allies 19 = .ok (.getfield 35, 3) := dzr zhdX11_allies_0 13 rfl
theorem dX11_allies_22 : decode cX11_allies 22 = .ok (.getfield 269, 3) := dzr zhdX11_allies_0 14 rfl
theorem dX11_allies_25 : decode cX11_allies 25 = .ok (.if_icmp .ge 40, 3) := dzr zhdX11_allies_0 15 rfl
theorem dX11_allies_28 : decode cX11_allies 28 = .ok (.aload_n 0, 1) := dzr zhdX11_allies_0 16 rfl
theorem dX11_allies_29 : decode cX11_allies 29 = .ok (.getfield 35, 3) := dzr zhdX11_allies_0 17 rfl
theorem dX11_allies_32 : decode cX11_allies 32 = .ok (.iload_n 1, 1) := dzr zhdX11_allies_0 18 rfl
theorem dX11_allies_33 : decode cX11_allies 33 = .ok (.iload_n 3, 1) := dzr zhdX11_allies_0 19 rfl
theorem dX11_allies_34 : decode cX11_allies 34 = .ok (.invokevirtual 196, 3) := dzr zhdX11_allies_0 20 rfl
theorem dX11_allies_37 : decode cX11_allies 37 = .ok (.ifCond .eq 22, 3) := dzr zhdX11_allies_0 21 rfl
theorem dX11_allies_40 : decode cX11_allies 40 = .ok (.aload_n 0, 1) := dzr zhdX11_allies_0 22 rfl
theorem dX11_allies_41 : decode cX11_allies 41 = .ok (.getfield 35, 3) := dzr zhdX11_allies_0 23 rfl
def ztdX11_allies_44 : List (Nat × Instr × Nat) := [(44, .iload_n 1, 1), (45, .iload_n 3, 1), (46, .invokevirtual 373, 3), (49, .iconst 1, 1), (50, .if_icmp .ne 9, 3), (53, .iload_n 2, 1), (54, .iconst 1, 1), (55, .iload_n 3, 1), (56, .ishl, 1), (57, .ior, 1), (58, .istore_n 2, 1), (59, .iinc 3 1, 3), (62, .goto (-45), 3), (65, .iload_n 2, 1), (66, .ireturn, 1)]
theorem zhdX11_allies_44 : dzC ztdX11_allies_44 44 (cX11_allies.data.toList.drop 44) = true := by decide +kernel
theorem dX11_allies_44 : decode cX11_allies 44 = .ok (.iload_n 1, 1) := dzr zhdX11_allies_44 0 rfl
theorem dX11_allies_45 : decode cX11_allies 45 = .ok (.iload_n 3, 1) := dzr zhdX11_allies_44 1 rfl
theorem dX11_allies_46 : decode cX11_allies 46 = .ok (.invokevirtual 373, 3) := dzr zhdX11_allies_44 2 rfl
theorem dX11_allies_49 : decode cX11_allies 49 = .ok (.iconst 1, 1) := dzr zhdX11_allies_44 3 rfl
theorem dX11_allies_50 : decode cX11_allies 50 = .ok (.if_icmp .ne 9, 3) := dzr zhdX11_allies_44 4 rfl
theorem dX11_allies_53 : decode cX11_allies 53 = .ok (.iload_n 2, 1) := dzr zhdX11_allies_44 5 rfl
theorem dX11_allies_54 : decode cX11_allies 54 = .ok (.iconst 1, 1) := dzr zhdX11_allies_44 6 rfl
theorem dX11_allies_55 : decode cX11_allies 55 = .ok (.iload_n 3, 1) := dzr zhdX11_allies_44 7 rfl
theorem dX11_allies_56 : decode cX11_allies 56 = .ok (.ishl, 1) := dzr zhdX11_allies_44 8 rfl
theorem dX11_allies_57 : decode cX11_allies 57 = .ok (.ior, 1) := dzr zhdX11_allies_44 9 rfl
theorem dX11_allies_58 : decode cX11_allies 58 = .ok (.istore_n 2, 1) := dzr zhdX11_allies_44 10 rfl
theorem dX11_allies_59 : decode cX11_allies 59 = .ok (.iinc 3 1, 3) := dzr zhdX11_allies_44 11 rfl
theorem dX11_allies_62 : decode cX11_allies 62 = .ok (.goto (-45), 3) := dzr zhdX11_allies_44 12 rfl
theorem dX11_allies_65 : decode cX11_allies 65 = .ok (.iload_n 2, 1) := dzr zhdX11_allies_44 13 rfl
theorem dX11_allies_66 : decode cX11_allies 66 = .ok (.ireturn, 1) := dzr zhdX11_allies_44 14 rfl
theorem ggX11_image_X11_noPeace : GoodIn wsX11_image wsX11_noPeace := (bg_up (bg_law (bi_wsL_law0_r23 _ (List.mem_of_getElem? (i := 5) rfl))))
theorem gX11_image_X11_noPeace : GoodIn wsX11_image (wsV RX11 146 RX11 yX11_noPeace wsX11_noPeace) := goodIn_app (bg_up (bg_cons (bi_wsL_law0_r23 _ (List.mem_of_getElem? (i := 2) rfl)) (bg_cons (bi_wsL_law0_r23 _ (List.mem_of_getElem? (i := 3) rfl)) (bg_cons (bi_wsL_law0_r23 _ (List.mem_of_getElem? (i := 4) rfl)) (bg_cons (bi_wsL_law0_r1 _ (List.mem_of_getElem? (i := 2) rfl)) bg_nil))))) (bg_up (bg_law (bi_wsL_law0_r23 _ (List.mem_of_getElem? (i := 5) rfl))))
theorem ggX11_image_X9_copyFrom : GoodIn wsX11_image wsX9_copyFrom := (bg_up (bg_law (bi_wsL_law0_r46 _ (List.mem_of_getElem? (i := 9) rfl))))
theorem gX11_image_X9_copyFrom : GoodIn wsX11_image (wsV RX11 286 RX9 yX9_copyFrom wsX9_copyFrom) := goodIn_app (bg_up (bg_cons (bi_wsL_law0_r46 _ (List.mem_of_getElem? (i := 6) rfl)) (bg_cons (bi_wsL_law0_r46 _ (List.mem_of_getElem? (i := 7) rfl)) (bg_cons (bi_wsL_law0_r46 _ (List.mem_of_getElem? (i := 8) rfl)) (bg_cons (bi_wsL_law0_r2 _ (List.mem_of_getElem? (i := 12) rfl)) bg_nil))))) (bg_up (bg_law (bi_wsL_law0_r46 _ (List.mem_of_getElem? (i := 9) rfl))))
theorem ggX11_image_X3_copyFrom : GoodIn wsX11_image wsX3_copyFrom := (bg_up (bg_law (bi_wsL_law0_r58 _ (List.mem_of_getElem? (i := 23) rfl))))
theorem gX11_image_X3_copyFrom : GoodIn wsX11_image (wsV RX11 376 RX3 yX3_copyFrom wsX3_copyFrom) := goodIn_app (bg_up (bg_cons (bi_wsL_law0_r58 _ (List.mem_of_getElem? (i := 20) rfl)) (bg_cons (bi_wsL_law0_r58 _ (List.mem_of_getElem? (i := 21) rfl)) (bg_cons (bi_wsL_law0_r58 _ (List.mem_of_getElem? (i := 22) rfl)) (bg_cons (bi_wsL_law0_r2 _ (List.mem_of_getElem? (i := 17) rfl)) bg_nil))))) (bg_up (bg_law (bi_wsL_law0_r58 _ (List.mem_of_getElem? (i := 23) rfl))))
theorem ggX11_image_X9_day : GoodIn wsX11_image wsX9_day := (bg_up (bg_law (bi_wsL_law0_r29 _ (List.mem_of_getElem? (i := 19) rfl))))
theorem gX11_image_X9_day : GoodIn wsX11_image (wsV RX11 239 RX9 yX9_day wsX9_day) := goodIn_app (bg_up (bg_cons (bi_wsL_law0_r36 _ (List.mem_of_getElem? (i := 19) rfl)) (bg_cons (bi_wsL_law0_r29 _ (List.mem_of_getElem? (i := 17) rfl)) (bg_cons (bi_wsL_law0_r29 _ (List.mem_of_getElem? (i := 18) rfl)) (bg_cons (bi_wsL_law0_r2 _ (List.mem_of_getElem? (i := 12) rfl)) bg_nil))))) (bg_up (bg_law (bi_wsL_law0_r29 _ (List.mem_of_getElem? (i := 19) rfl))))
def ztdX11_image_0 : List (Nat × Instr × Nat) := [(0, .aload_n 0, 1), (1, .invokevirtual 146, 3), (4, .ifCond .eq 5, 3), (7, .iconst (-1), 1), (8, .ireturn, 1), (9, .aload_n 0, 1), (10, .getfield 72, 3), (13, .aload_n 0, 1), (14, .getfield 51, 3), (17, .invokevirtual 286, 3), (20, .aload_n 0, 1), (21, .getfield 75, 3), (24, .aload_n 0, 1), (25, .getfield 61, 3), (28, .invokevirtual 376, 3), (31, .aload_n 0, 1), (32, .iconst 1, 1), (33, .putfield 105, 3), (36, .aload_n 0, 1), (37, .getfield 51, 3), (40, .invokevirtual 239, 3), (43, .ireturn, 1)]
theorem zhdX11_image_0 : dzC ztdX11_image_0 0 (cX11_image.data.toList.drop 0) = true := by decide +kernel
theorem dX11_image_0 : decode cX11_image 0 = .ok (.aload_n 0, 1) := dzr zhdX11_image_0 0 rfl
theorem dX11_image_1 : decode cX11_image 1 = .ok (.invokevirtual 146, 3) := dzr zhdX11_image_0 1 rfl
theorem dX11_image_4 : decode cX11_image 4 = .ok (.ifCond .eq 5, 3) := dzr zhdX11_image_0 2 rfl
theorem dX11_image_7 : decode cX11_image 7 = .ok (.iconst (-1), 1) := dzr zhdX11_image_0 3 rfl
theorem dX11_image_8 : decode cX11_image 8 = .ok (.ireturn, 1) := dzr zhdX11_image_0 4 rfl
theorem dX11_image_9 : decode cX11_image 9 = .ok (.aload_n 0, 1) := dzr zhdX11_image_0 5 rfl
theorem dX11_image_10 : decode cX11_image 10 = .ok (.getfield 72, 3) := dzr zhdX11_image_0 6 rfl
theorem dX11_image_13 : decode cX11_image 13 = .ok (.aload_n 0, 1) := dzr zhdX11_image_0 7 rfl
theorem dX11_image_14 : decode cX11_image 14 = .ok (.getfield 51, 3) := dzr zhdX11_image_0 8 rfl
theorem dX11_image_17 : decode cX11_image 17 = .ok (.invokevirtual 286, 3) := dzr zhdX11_image_0 9 rfl
theorem dX11_image_20 : decode cX11_image 20 = .ok (.aload_n 0, 1) := dzr zhdX11_image_0 10 rfl
theorem dX11_image_21 : decode cX11_image 21 = .ok (.getfield 75, 3) := dzr zhdX11_image_0 11 rfl
theorem dX11_image_24 : decode cX11_image 24 = .ok (.aload_n 0, 1) := dzr zhdX11_image_0 12 rfl
theorem dX11_image_25 : decode cX11_image 25 = .ok (.getfield 61, 3) := dzr zhdX11_image_0 13 rfl
theorem dX11_image_28 : decode cX11_image 28 = .ok (.invokevirtual 376, 3) := dzr zhdX11_image_0 14 rfl
theorem dX11_image_31 : decode cX11_image 31 = .ok (.aload_n 0, 1) := dzr zhdX11_image_0 15 rfl
theorem dX11_image_32 : decode cX11_image 32 = .ok (.iconst 1, 1) := dzr zhdX11_image_0 16 rfl
theorem dX11_image_33 : decode cX11_image 33 = .ok (.putfield 105, 3) := dzr zhdX11_image_0 17 rfl
theorem dX11_image_36 : decode cX11_image 36 = .ok (.aload_n 0, 1) := dzr zhdX11_image_0 18 rfl
theorem dX11_image_37 : decode cX11_image 37 = .ok (.getfield 51, 3) := dzr zhdX11_image_0 19 rfl
theorem dX11_image_40 : decode cX11_image 40 = .ok (.invokevirtual 239, 3) := dzr zhdX11_image_0 20 rfl
theorem dX11_image_43 : decode cX11_image 43 = .ok (.ireturn, 1) := dzr zhdX11_image_0 21 rfl
theorem ggX11_back_X9_copyFrom : GoodIn wsX11_back wsX9_copyFrom := (bg_up (bg_law (bi_wsL_law0_r46 _ (List.mem_of_getElem? (i := 9) rfl))))
theorem gX11_back_X9_copyFrom : GoodIn wsX11_back (wsV RX11 286 RX9 yX9_copyFrom wsX9_copyFrom) := goodIn_app (bg_up (bg_cons (bi_wsL_law0_r46 _ (List.mem_of_getElem? (i := 6) rfl)) (bg_cons (bi_wsL_law0_r46 _ (List.mem_of_getElem? (i := 7) rfl)) (bg_cons (bi_wsL_law0_r46 _ (List.mem_of_getElem? (i := 8) rfl)) (bg_cons (bi_wsL_law0_r2 _ (List.mem_of_getElem? (i := 12) rfl)) bg_nil))))) (bg_up (bg_law (bi_wsL_law0_r46 _ (List.mem_of_getElem? (i := 9) rfl))))
theorem ggX11_back_X3_copyFrom : GoodIn wsX11_back wsX3_copyFrom := (bg_up (bg_law (bi_wsL_law0_r58 _ (List.mem_of_getElem? (i := 23) rfl))))
theorem gX11_back_X3_copyFrom : GoodIn wsX11_back (wsV RX11 376 RX3 yX3_copyFrom wsX3_copyFrom) := goodIn_app (bg_up (bg_cons (bi_wsL_law0_r58 _ (List.mem_of_getElem? (i := 20) rfl)) (bg_cons (bi_wsL_law0_r58 _ (List.mem_of_getElem? (i := 21) rfl)) (bg_cons (bi_wsL_law0_r58 _ (List.mem_of_getElem? (i := 22) rfl)) (bg_cons (bi_wsL_law0_r2 _ (List.mem_of_getElem? (i := 17) rfl)) bg_nil))))) (bg_up (bg_law (bi_wsL_law0_r58 _ (List.mem_of_getElem? (i := 23) rfl))))
theorem ggX11_back_X0_forget : GoodIn wsX11_back wsX0_forget := (bg_up (bg_law (bi_wsL_law0_r21 _ (List.mem_of_getElem? (i := 8) rfl))))
theorem gX11_back_X0_forget : GoodIn wsX11_back (wsV RX11 379 RX0 yX0_forget wsX0_forget) := goodIn_app (bg_up (bg_cons (bi_wsL_law0_r21 _ (List.mem_of_getElem? (i := 5) rfl)) (bg_cons (bi_wsL_law0_r21 _ (List.mem_of_getElem? (i := 6) rfl)) (bg_cons (bi_wsL_law0_r21 _ (List.mem_of_getElem? (i := 7) rfl)) (bg_cons (bi_wsL_law0_r2 _ (List.mem_of_getElem? (i := 21) rfl)) bg_nil))))) (bg_up (bg_law (bi_wsL_law0_r21 _ (List.mem_of_getElem? (i := 8) rfl))))
theorem ggX11_back_X9_day : GoodIn wsX11_back wsX9_day := (bg_up (bg_law (bi_wsL_law0_r29 _ (List.mem_of_getElem? (i := 19) rfl))))
theorem gX11_back_X9_day : GoodIn wsX11_back (wsV RX11 239 RX9 yX9_day wsX9_day) := goodIn_app (bg_up (bg_cons (bi_wsL_law0_r36 _ (List.mem_of_getElem? (i := 19) rfl)) (bg_cons (bi_wsL_law0_r29 _ (List.mem_of_getElem? (i := 17) rfl)) (bg_cons (bi_wsL_law0_r29 _ (List.mem_of_getElem? (i := 18) rfl)) (bg_cons (bi_wsL_law0_r2 _ (List.mem_of_getElem? (i := 12) rfl)) bg_nil))))) (bg_up (bg_law (bi_wsL_law0_r29 _ (List.mem_of_getElem? (i := 19) rfl))))
def ztdX11_back_0 : List (Nat × Instr × Nat) := [(0, .aload_n 0, 1), (1, .getfield 105, 3), (4, .ifCond .ne 5, 3), (7, .iconst (-1), 1), (8, .ireturn, 1), (9, .aload_n 0, 1), (10, .getfield 51, 3), (13, .aload_n 0, 1), (14, .getfield 72, 3), (17, .invokevirtual 286, 3), (20, .aload_n 0, 1), (21, .getfield 61, 3), (24, .aload_n 0, 1), (25, .getfield 75, 3), (28, .invokevirtual 376, 3), (31, .aload_n 0, 1), (32, .getfield 68, 3), (35, .invokevirtual 379, 3), (38, .aload_n 0, 1), (39, .getfield 51, 3), (42, .invokevirtual 239, 3), (45, .ireturn, 1)]
theorem zhdX11_back_0 : dzC ztdX11_back_0 0 (cX11_back.data.toList.drop 0) = true := by decide +kernel
theorem dX11_back_0 : decode cX11_back 0 = .ok (.aload_n 0, 1) := dzr zhdX11_back_0 0 rfl
theorem dX11_back_1 : decode cX11_back 1 = .ok (.getfield 105, 3) := dzr zhdX11_back_0 1 rfl
theorem dX11_back_4 : decode cX11_back 4 = .ok (.ifCond .ne 5, 3) := dzr zhdX11_back_0 2 rfl
theorem dX11_back_7 : decode cX11_back 7 = .ok (.iconst (-1), 1) := dzr zhdX11_back_0 3 rfl
theorem dX11_back_8 : decode cX11_back 8 = .ok (.ireturn, 1) := dzr zhdX11_back_0 4 rfl
theorem dX11_back_9 : decode cX11_back 9 = .ok (.aload_n 0, 1) := dzr zhdX11_back_0 5 rfl
theorem dX11_back_10 : decode cX11_back 10 = .ok (.getfield 51, 3) := dzr zhdX11_back_0 6 rfl
theorem dX11_back_13 : decode cX11_back 13 = .ok (.aload_n 0, 1) := dzr zhdX11_back_0 7 rfl
theorem dX11_back_14 : decode cX11_back 14 = .ok (.getfield 72, 3) := dzr zhdX11_back_0 8 rfl
theorem dX11_back_17 : decode cX11_back 17 = .ok (.invokevirtual 286, 3) := dzr zhdX11_back_0 9 rfl
theorem dX11_back_20 : decode cX11_back 20 = .ok (.aload_n 0, 1) := dzr zhdX11_back_0 10 rfl
theorem dX11_back_21 : decode cX11_back 21 = .ok (.getfield 61, 3) := dzr zhdX11_back_0 11 rfl
theorem dX11_back_24 : decode cX11_back 24 = .ok (.aload_n 0, 1) := dzr zhdX11_back_0 12 rfl
theorem dX11_back_25 : decode cX11_back 25 = .ok (.getfield 75, 3) := dzr zhdX11_back_0 13 rfl
theorem dX11_back_28 : decode cX11_back 28 = .ok (.invokevirtual 376, 3) := dzr zhdX11_back_0 14 rfl
theorem dX11_back_31 : decode cX11_back 31 = .ok (.aload_n 0, 1) := dzr zhdX11_back_0 15 rfl
theorem dX11_back_32 : decode cX11_back 32 = .ok (.getfield 68, 3) := dzr zhdX11_back_0 16 rfl
theorem dX11_back_35 : decode cX11_back 35 = .ok (.invokevirtual 379, 3) := dzr zhdX11_back_0 17 rfl
theorem dX11_back_38 : decode cX11_back 38 = .ok (.aload_n 0, 1) := dzr zhdX11_back_0 18 rfl
theorem dX11_back_39 : decode cX11_back 39 = .ok (.getfield 51, 3) := dzr zhdX11_back_0 19 rfl
theorem dX11_back_42 : decode cX11_back 42 = .ok (.invokevirtual 239, 3) := dzr zhdX11_back_0 20 rfl
theorem dX11_back_45 : decode cX11_back 45 = .ok (.ireturn, 1) := dzr zhdX11_back_0 21 rfl
theorem ggX11_count_X9_day : GoodIn wsX11_count wsX9_day := (bg_up (bg_law (bi_wsL_law0_r29 _ (List.mem_of_getElem? (i := 19) rfl))))
theorem gX11_count_X9_day : GoodIn wsX11_count (wsV RX11 239 RX9 yX9_day wsX9_day) := goodIn_app (bg_up (bg_cons (bi_wsL_law0_r36 _ (List.mem_of_getElem? (i := 19) rfl)) (bg_cons (bi_wsL_law0_r29 _ (List.mem_of_getElem? (i := 17) rfl)) (bg_cons (bi_wsL_law0_r29 _ (List.mem_of_getElem? (i := 18) rfl)) (bg_cons (bi_wsL_law0_r2 _ (List.mem_of_getElem? (i := 12) rfl)) bg_nil))))) (bg_up (bg_law (bi_wsL_law0_r29 _ (List.mem_of_getElem? (i := 19) rfl))))
theorem ggX11_count_X9_warmthOfAll : GoodIn wsX11_count wsX9_warmthOfAll := (bg_up (bg_law (bi_wsL_law0_r38 _ (List.mem_of_getElem? (i := 0) rfl))))
theorem gX11_count_X9_warmthOfAll : GoodIn wsX11_count (wsV RX11 385 RX9 yX9_warmthOfAll wsX9_warmthOfAll) := goodIn_app (bg_up (bg_cons (bi_wsL_law0_r37 _ (List.mem_of_getElem? (i := 21) rfl)) (bg_cons (bi_wsL_law0_r37 _ (List.mem_of_getElem? (i := 22) rfl)) (bg_cons (bi_wsL_law0_r37 _ (List.mem_of_getElem? (i := 23) rfl)) (bg_cons (bi_wsL_law0_r2 _ (List.mem_of_getElem? (i := 12) rfl)) bg_nil))))) (bg_up (bg_law (bi_wsL_law0_r38 _ (List.mem_of_getElem? (i := 0) rfl))))
theorem ggX11_count_X9_metBits : GoodIn wsX11_count wsX9_metBits := (bg_up (bg_law (bi_wsL_law0_r37 _ (List.mem_of_getElem? (i := 8) rfl))))
theorem gX11_count_X9_metBits : GoodIn wsX11_count (wsV RX11 346 RX9 yX9_metBits wsX9_metBits) := goodIn_app (bg_up (bg_cons (bi_wsL_law0_r37 _ (List.mem_of_getElem? (i := 5) rfl)) (bg_cons (bi_wsL_law0_r37 _ (List.mem_of_getElem? (i := 6) rfl)) (bg_cons (bi_wsL_law0_r37 _ (List.mem_of_getElem? (i := 7) rfl)) (bg_cons (bi_wsL_law0_r2 _ (List.mem_of_getElem? (i := 12) rfl)) bg_nil))))) (bg_up (bg_law (bi_wsL_law0_r37 _ (List.mem_of_getElem? (i := 8) rfl))))
theorem ggX11_count_J6_bitCount_0f7a4 : GoodIn wsX11_count wsJ6_bitCount_0f7a4 := (bg_up (bg_law (bi_wsL_law0_r37 _ (List.mem_of_getElem? (i := 13) rfl))))
theorem gX11_count_J6_bitCount_0f7a4 : GoodIn wsX11_count (va_wsS RX11 388 yJ6_bitCount_0f7a4 wsJ6_bitCount_0f7a4) := goodIn_app (bg_up (bg_cons (bi_wsL_law0_r37 _ (List.mem_of_getElem? (i := 10) rfl)) (bg_cons (bi_wsL_law0_r37 _ (List.mem_of_getElem? (i := 11) rfl)) (bg_cons (bi_wsL_law0_r37 _ (List.mem_of_getElem? (i := 12) rfl)) bg_nil)))) (bg_up (bg_law (bi_wsL_law0_r37 _ (List.mem_of_getElem? (i := 13) rfl))))
theorem ggX11_count_X3_lengthOn : GoodIn wsX11_count wsX3_lengthOn := (bg_up (bg_law (bi_wsL_law0_r42 _ (List.mem_of_getElem? (i := 5) rfl))))
theorem gX11_count_X3_lengthOn : GoodIn wsX11_count (va_wsS RX11 255 yX3_lengthOn wsX3_lengthOn) := goodIn_app (bg_up (bg_cons (bi_wsL_law0_r42 _ (List.mem_of_getElem? (i := 3) rfl)) (bg_cons (bi_wsL_law0_r42 _ (List.mem_of_getElem? (i := 4) rfl)) (bg_cons (bi_wsL_law0_r2 _ (List.mem_of_getElem? (i := 17) rfl)) bg_nil)))) (bg_up (bg_law (bi_wsL_law0_r42 _ (List.mem_of_getElem? (i := 5) rfl))))
theorem dX11_count_1 : decode cX11_count 1 = .ok (.tableswitch 162 0 11 #[63, 71, 79, 87, 95, 103, 111, 119, 130, 135, 143, 154], 63) := by decide +kernel
def ztdX11_count_0 : List (Nat × Instr × Nat) := [(0, .iload_n 1, 1), (64, .aload_n 0, 1), (65, .getfield 35, 3), (68, .getfield 269, 3), (71, .ireturn, 1), (72, .aload_n 0, 1), (73, .getfield 35, 3), (76, .getfield 382, 3), (79, .ireturn, 1), (80, .aload_n 0, 1), (81, .getfield 42, 3), (84, .getfield 204, 3), (87, .ireturn, 1), (88, .aload_n 0, 1), (89, .getfield 10, 3), (92, .getfield 121, 3), (95, .ireturn, 1), (96, .aload_n 0, 1), (97, .getfield 42, 3), (100, .getfield 207, 3), (103, .ireturn, 1), (104, .aload_n 0, 1), (105, .getfield 51, 3), (108, .invokevirtual 239, 3)]
theorem zhdX11_count_0 : dzC ztdX11_count_0 0 (cX11_count.data.toList.drop 0) = true := by decide +kernel
theorem dX11_count_0 : decode cX11_count 0 = .ok (.iload_n 1, 1) := dzr zhdX11_count_0 0 rfl
theorem dX11_count_64 : decode cX11_count 64 = .ok (.aload_n 0, 1) := dzr zhdX11_count_0 1 rfl
theorem dX11_count_65 : decode cX11_count 65 = .ok (.getfield 35, 3) := dzr zhdX11_count_0 2 rfl
theorem dX11_count_68 : decode cX11_count 68 = .ok (.getfield 269, 3) := dzr zhdX11_count_0 3 rfl
theorem dX11_count_71 : decode cX11_count 71 = .ok (.ireturn, 1) := dzr zhdX11_count_0 4 rfl
theorem dX11_count_72 : decode cX11_count 72 = .ok (.aload_n 0, 1) := dzr zhdX11_count_0 5 rfl
theorem dX11_count_73 : decode cX11_count 73 = .ok (.getfield 35, 3) := dzr zhdX11_count_0 6 rfl
theorem dX11_count_76 : decode cX11_count 76 = .ok (.getfield 382, 3) := dzr zhdX11_count_0 7 rfl
theorem dX11_count_79 : decode cX11_count 79 = .ok (.ireturn, 1) := dzr zhdX11_count_0 8 rfl
theorem dX11_count_80 : decode cX11_count 80 = .ok (.aload_n 0, 1) := dzr zhdX11_count_0 9 rfl
theorem dX11_count_81 : decode cX11_count 81 = .ok (.getfield 42, 3) := dzr zhdX11_count_0 10 rfl
theorem dX11_count_84 : decode cX11_count 84 = .ok (.getfield 204, 3) := dzr zhdX11_count_0 11 rfl
theorem dX11_count_87 : decode cX11_count 87 = .ok (.ireturn, 1) := dzr zhdX11_count_0 12 rfl
theorem dX11_count_88 : decode cX11_count 88 = .ok (.aload_n 0, 1) := dzr zhdX11_count_0 13 rfl
theorem dX11_count_89 : decode cX11_count 89 = .ok (.getfield 10, 3) := dzr zhdX11_count_0 14 rfl
theorem dX11_count_92 : decode cX11_count 92 = .ok (.getfield 121, 3) := dzr zhdX11_count_0 15 rfl
theorem dX11_count_95 : decode cX11_count 95 = .ok (.ireturn, 1) := dzr zhdX11_count_0 16 rfl
theorem dX11_count_96 : decode cX11_count 96 = .ok (.aload_n 0, 1) := dzr zhdX11_count_0 17 rfl
theorem dX11_count_97 : decode cX11_count 97 = .ok (.getfield 42, 3) := dzr zhdX11_count_0 18 rfl
theorem dX11_count_100 : decode cX11_count 100 = .ok (.getfield 207, 3) := dzr zhdX11_count_0 19 rfl
theorem dX11_count_103 : decode cX11_count 103 = .ok (.ireturn, 1) := dzr zhdX11_count_0 20 rfl
theorem dX11_count_104 : decode cX11_count 104 = .ok (.aload_n 0, 1) := dzr zhdX11_count_0 21 rfl
theorem dX11_count_105 : decode cX11_count 105 = .ok (.getfield 51, 3) := dzr zhdX11_count_0 22 rfl
theorem dX11_count_108 : decode cX11_count 108 = .ok (.invokevirtual 239, 3) := dzr zhdX11_count_0 23 rfl
def ztdX11_count_111 : List (Nat × Instr × Nat) := [(111, .ireturn, 1), (112, .aload_n 0, 1), (113, .getfield 51, 3), (116, .invokevirtual 385, 3), (119, .ireturn, 1), (120, .aload_n 0, 1), (121, .getfield 51, 3), (124, .invokevirtual 346, 3), (127, .invokestatic 388, 3), (130, .ireturn, 1), (131, .aload_n 0, 1), (132, .getfield 109, 3), (135, .ireturn, 1), (136, .aload_n 0, 1), (137, .getfield 81, 3), (140, .getfield 309, 3), (143, .ireturn, 1), (144, .aload_n 0, 1), (145, .getfield 51, 3), (148, .invokevirtual 239, 3), (151, .invokestatic 255, 3), (154, .ireturn, 1), (155, .aload_n 0, 1), (156, .getfield 68, 3)]
theorem zhdX11_count_111 : dzC ztdX11_count_111 111 (cX11_count.data.toList.drop 111) = true := by decide +kernel
theorem dX11_count_111 : decode cX11_count 111 = .ok (.ireturn, 1) := dzr zhdX11_count_111 0 rfl
theorem dX11_count_112 : decode cX11_count 112 = .ok (.aload_n 0, 1) := dzr zhdX11_count_111 1 rfl
theorem dX11_count_113 : decode cX11_count 113 = .ok (.getfield 51, 3) := dzr zhdX11_count_111 2 rfl
theorem dX11_count_116 : decode cX11_count 116 = .ok (.invokevirtual 385, 3) := dzr zhdX11_count_111 3 rfl
theorem dX11_count_119 : decode cX11_count 119 = .ok (.ireturn, 1) := dzr zhdX11_count_111 4 rfl
theorem dX11_count_120 : decode cX11_count 120 = .ok (.aload_n 0, 1) := dzr zhdX11_count_111 5 rfl
theorem dX11_count_121 : decode cX11_count 121 = .ok (.getfield 51, 3) := dzr zhdX11_count_111 6 rfl
theorem dX11_count_124 : decode cX11_count 124 = .ok (.invokevirtual 346, 3) := dzr zhdX11_count_111 7 rfl
theorem dX11_count_127 : decode cX11_count 127 = .ok (.invokestatic 388, 3) := dzr zhdX11_count_111 8 rfl
theorem dX11_count_130 : decode cX11_count 130 = .ok (.ireturn, 1) := dzr zhdX11_count_111 9 rfl
theorem dX11_count_131 : decode cX11_count 131 = .ok (.aload_n 0, 1) := dzr zhdX11_count_111 10 rfl
theorem dX11_count_132 : decode cX11_count 132 = .ok (.getfield 109, 3) := dzr zhdX11_count_111 11 rfl
theorem dX11_count_135 : decode cX11_count 135 = .ok (.ireturn, 1) := dzr zhdX11_count_111 12 rfl
theorem dX11_count_136 : decode cX11_count 136 = .ok (.aload_n 0, 1) := dzr zhdX11_count_111 13 rfl
theorem dX11_count_137 : decode cX11_count 137 = .ok (.getfield 81, 3) := dzr zhdX11_count_111 14 rfl
theorem dX11_count_140 : decode cX11_count 140 = .ok (.getfield 309, 3) := dzr zhdX11_count_111 15 rfl
theorem dX11_count_143 : decode cX11_count 143 = .ok (.ireturn, 1) := dzr zhdX11_count_111 16 rfl
theorem dX11_count_144 : decode cX11_count 144 = .ok (.aload_n 0, 1) := dzr zhdX11_count_111 17 rfl
theorem dX11_count_145 : decode cX11_count 145 = .ok (.getfield 51, 3) := dzr zhdX11_count_111 18 rfl
theorem dX11_count_148 : decode cX11_count 148 = .ok (.invokevirtual 239, 3) := dzr zhdX11_count_111 19 rfl
theorem dX11_count_151 : decode cX11_count 151 = .ok (.invokestatic 255, 3) := dzr zhdX11_count_111 20 rfl
theorem dX11_count_154 : decode cX11_count 154 = .ok (.ireturn, 1) := dzr zhdX11_count_111 21 rfl
theorem dX11_count_155 : decode cX11_count 155 = .ok (.aload_n 0, 1) := dzr zhdX11_count_111 22 rfl
theorem dX11_count_156 : decode cX11_count 156 = .ok (.getfield 68, 3) := dzr zhdX11_count_111 23 rfl
def ztdX11_count_159 : List (Nat × Instr × Nat) := [(159, .getfield 251, 3), (162, .ireturn, 1), (163, .ldc_w 264, 3), (166, .ireturn, 1)]
theorem zhdX11_count_159 : dzC ztdX11_count_159 159 (cX11_count.data.toList.drop 159) = true := by decide +kernel
theorem dX11_count_159 : decode cX11_count 159 = .ok (.getfield 251, 3) := dzr zhdX11_count_159 0 rfl
theorem dX11_count_162 : decode cX11_count 162 = .ok (.ireturn, 1) := dzr zhdX11_count_159 1 rfl
theorem dX11_count_163 : decode cX11_count 163 = .ok (.ldc_w 264, 3) := dzr zhdX11_count_159 2 rfl
theorem dX11_count_166 : decode cX11_count 166 = .ok (.ireturn, 1) := dzr zhdX11_count_159 3 rfl
def ztdX11_noPeace_0 : List (Nat × Instr × Nat) := [(0, .aload_n 0, 1), (1, .getfield 35, 3), (4, .getfield 269, 3), (7, .ifCond .ne 7, 3), (10, .iconst 1, 1), (11, .goto 4, 3), (14, .iconst 0, 1), (15, .ireturn, 1)]
theorem zhdX11_noPeace_0 : dzC ztdX11_noPeace_0 0 (cX11_noPeace.data.toList.drop 0) = true := by decide +kernel
theorem dX11_noPeace_0 : decode cX11_noPeace 0 = .ok (.aload_n 0, 1) := dzr zhdX11_noPeace_0 0 rfl
theorem dX11_noPeace_1 : decode cX11_noPeace 1 = .ok (.getfield 35, 3) := dzr zhdX11_noPeace_0 1 rfl
theorem dX11_noPeace_4 : decode cX11_noPeace 4 = .ok (.getfield 269, 3) := dzr zhdX11_noPeace_0 2 rfl
theorem dX11_noPeace_7 : decode cX11_noPeace 7 = .ok (.ifCond .ne 7, 3) := dzr zhdX11_noPeace_0 3 rfl
theorem dX11_noPeace_10 : decode cX11_noPeace 10 = .ok (.iconst 1, 1) := dzr zhdX11_noPeace_0 4 rfl
theorem dX11_noPeace_11 : decode cX11_noPeace 11 = .ok (.goto 4, 3) := dzr zhdX11_noPeace_0 5 rfl
theorem dX11_noPeace_14 : decode cX11_noPeace 14 = .ok (.iconst 0, 1) := dzr zhdX11_noPeace_0 6 rfl
theorem dX11_noPeace_15 : decode cX11_noPeace 15 = .ok (.ireturn, 1) := dzr zhdX11_noPeace_0 7 rfl
def ztdX11_isNoRise_0 : List (Nat × Instr × Nat) := [(0, .iload_n 0, 1), (1, .bipush (-9), 2), (3, .if_icmp .lt 9, 3), (6, .iload_n 0, 1), (7, .bipush 9, 2), (9, .if_icmp .le 7, 3), (12, .iconst 1, 1), (13, .goto 4, 3), (16, .iconst 0, 1), (17, .ireturn, 1)]
theorem zhdX11_isNoRise_0 : dzC ztdX11_isNoRise_0 0 (cX11_isNoRise.data.toList.drop 0) = true := by decide +kernel
theorem dX11_isNoRise_0 : decode cX11_isNoRise 0 = .ok (.iload_n 0, 1) := dzr zhdX11_isNoRise_0 0 rfl
theorem dX11_isNoRise_1 : decode cX11_isNoRise 1 = .ok (.bipush (-9), 2) := dzr zhdX11_isNoRise_0 1 rfl
theorem dX11_isNoRise_3 : decode cX11_isNoRise 3 = .ok (.if_icmp .lt 9, 3) := dzr zhdX11_isNoRise_0 2 rfl
theorem dX11_isNoRise_6 : decode cX11_isNoRise 6 = .ok (.iload_n 0, 1) := dzr zhdX11_isNoRise_0 3 rfl
theorem dX11_isNoRise_7 : decode cX11_isNoRise 7 = .ok (.bipush 9, 2) := dzr zhdX11_isNoRise_0 4 rfl
theorem dX11_isNoRise_9 : decode cX11_isNoRise 9 = .ok (.if_icmp .le 7, 3) := dzr zhdX11_isNoRise_0 5 rfl
theorem dX11_isNoRise_12 : decode cX11_isNoRise 12 = .ok (.iconst 1, 1) := dzr zhdX11_isNoRise_0 6 rfl
theorem dX11_isNoRise_13 : decode cX11_isNoRise 13 = .ok (.goto 4, 3) := dzr zhdX11_isNoRise_0 7 rfl
theorem dX11_isNoRise_16 : decode cX11_isNoRise 16 = .ok (.iconst 0, 1) := dzr zhdX11_isNoRise_0 8 rfl
theorem dX11_isNoRise_17 : decode cX11_isNoRise 17 = .ok (.ireturn, 1) := dzr zhdX11_isNoRise_0 9 rfl
def ztdX11_refuse_0 : List (Nat × Instr × Nat) := [(0, .aload_n 0, 1), (1, .getfield 101, 3), (4, .iload_n 1, 1), (5, .dup2, 1), (6, .iaload, 1), (7, .iconst 1, 1), (8, .iadd, 1), (9, .iastore, 1), (10, .iconst (-1), 1), (11, .ireturn, 1)]
theorem zhdX11_refuse_0 : dzC ztdX11_refuse_0 0 (cX11_refuse.data.toList.drop 0) = true := by decide +kernel
theorem dX11_refuse_0 : decode cX11_refuse 0 = .ok (.aload_n 0, 1) := dzr zhdX11_refuse_0 0 rfl
theorem dX11_refuse_1 : decode cX11_refuse 1 = .ok (.getfield 101, 3) := dzr zhdX11_refuse_0 1 rfl
theorem dX11_refuse_4 : decode cX11_refuse 4 = .ok (.iload_n 1, 1) := dzr zhdX11_refuse_0 2 rfl
theorem dX11_refuse_5 : decode cX11_refuse 5 = .ok (.dup2, 1) := dzr zhdX11_refuse_0 3 rfl
theorem dX11_refuse_6 : decode cX11_refuse 6 = .ok (.iaload, 1) := dzr zhdX11_refuse_0 4 rfl
theorem dX11_refuse_7 : decode cX11_refuse 7 = .ok (.iconst 1, 1) := dzr zhdX11_refuse_0 5 rfl
theorem dX11_refuse_8 : decode cX11_refuse 8 = .ok (.iadd, 1) := dzr zhdX11_refuse_0 6 rfl
theorem dX11_refuse_9 : decode cX11_refuse 9 = .ok (.iastore, 1) := dzr zhdX11_refuse_0 7 rfl
theorem dX11_refuse_10 : decode cX11_refuse 10 = .ok (.iconst (-1), 1) := dzr zhdX11_refuse_0 8 rfl
theorem dX11_refuse_11 : decode cX11_refuse 11 = .ok (.ireturn, 1) := dzr zhdX11_refuse_0 9 rfl
theorem ggX11_takePeace_X5_copyFrom : GoodIn wsX11_takePeace wsX5_copyFrom := (bg_up (bg_law (bi_wsL_law0_r20 _ (List.mem_of_getElem? (i := 16) rfl))))
theorem gX11_takePeace_X5_copyFrom : GoodIn wsX11_takePeace (wsV RX11 395 RX5 yX5_copyFrom wsX5_copyFrom) := goodIn_app (bg_up (bg_cons (bi_wsL_law0_r20 _ (List.mem_of_getElem? (i := 13) rfl)) (bg_cons (bi_wsL_law0_r20 _ (List.mem_of_getElem? (i := 14) rfl)) (bg_cons (bi_wsL_law0_r20 _ (List.mem_of_getElem? (i := 15) rfl)) (bg_cons (bi_wsL_law0_r2 _ (List.mem_of_getElem? (i := 4) rfl)) bg_nil))))) (bg_up (bg_law (bi_wsL_law0_r20 _ (List.mem_of_getElem? (i := 16) rfl))))
theorem ggX11_takePeace_X9_begin : GoodIn wsX11_takePeace wsX9_begin := (bg_up (bg_law (bi_wsL_law0_r21 _ (List.mem_of_getElem? (i := 0) rfl))))
theorem gX11_takePeace_X9_begin : GoodIn wsX11_takePeace (wsV RX11 397 RX9 yX9_begin wsX9_begin) := goodIn_app (bg_up (bg_cons (bi_wsL_law0_r20 _ (List.mem_of_getElem? (i := 21) rfl)) (bg_cons (bi_wsL_law0_r20 _ (List.mem_of_getElem? (i := 22) rfl)) (bg_cons (bi_wsL_law0_r20 _ (List.mem_of_getElem? (i := 23) rfl)) (bg_cons (bi_wsL_law0_r2 _ (List.mem_of_getElem? (i := 12) rfl)) bg_nil))))) (bg_up (bg_law (bi_wsL_law0_r21 _ (List.mem_of_getElem? (i := 0) rfl))))
theorem ggX11_takePeace_X0_forget : GoodIn wsX11_takePeace wsX0_forget := (bg_up (bg_law (bi_wsL_law0_r21 _ (List.mem_of_getElem? (i := 8) rfl))))
theorem gX11_takePeace_X0_forget : GoodIn wsX11_takePeace (wsV RX11 379 RX0 yX0_forget wsX0_forget) := goodIn_app (bg_up (bg_cons (bi_wsL_law0_r21 _ (List.mem_of_getElem? (i := 5) rfl)) (bg_cons (bi_wsL_law0_r21 _ (List.mem_of_getElem? (i := 6) rfl)) (bg_cons (bi_wsL_law0_r21 _ (List.mem_of_getElem? (i := 7) rfl)) (bg_cons (bi_wsL_law0_r2 _ (List.mem_of_getElem? (i := 21) rfl)) bg_nil))))) (bg_up (bg_law (bi_wsL_law0_r21 _ (List.mem_of_getElem? (i := 8) rfl))))
def ztdX11_takePeace_0 : List (Nat × Instr × Nat) := [(0, .aload_n 0, 1), (1, .getfield 10, 3), (4, .iconst 0, 1), (5, .putfield 121, 3), (8, .aload_n 0, 1), (9, .getfield 35, 3), (12, .aload_n 0, 1), (13, .getfield 21, 3), (16, .getfield 393, 3), (19, .invokevirtual 395, 3), (22, .aload_n 0, 1), (23, .getfield 51, 3), (26, .invokevirtual 397, 3), (29, .aload_n 0, 1), (30, .getfield 68, 3), (33, .invokevirtual 379, 3), (36, .aload_n 0, 1), (37, .getfield 81, 3), (40, .iconst 0, 1), (41, .putfield 309, 3), (44, .aload_n 0, 1), (45, .iconst 0, 1), (46, .putfield 105, 3), (49, .aload_n 0, 1)]
theorem zhdX11_takePeace_0 : dzC ztdX11_takePeace_0 0 (cX11_takePeace.data.toList.drop 0) = true := by decide +kernel
theorem dX11_takePeace_0 : decode cX11_takePeace 0 = .ok (.aload_n 0, 1) := dzr zhdX11_takePeace_0 0 rfl
theorem dX11_takePeace_1 : decode cX11_takePeace 1 = .ok (.getfield 10, 3) := dzr zhdX11_takePeace_0 1 rfl
theorem dX11_takePeace_4 : decode cX11_takePeace 4 = .ok (.iconst 0, 1) := dzr zhdX11_takePeace_0 2 rfl
theorem dX11_takePeace_5 : decode cX11_takePeace 5 = .ok (.putfield 121, 3) := dzr zhdX11_takePeace_0 3 rfl
theorem dX11_takePeace_8 : decode cX11_takePeace 8 = .ok (.aload_n 0, 1) := dzr zhdX11_takePeace_0 4 rfl
theorem dX11_takePeace_9 : decode cX11_takePeace 9 = .ok (.getfield 35, 3) := dzr zhdX11_takePeace_0 5 rfl
theorem dX11_takePeace_12 : decode cX11_takePeace 12 = .ok (.aload_n 0, 1) := dzr zhdX11_takePeace_0 6 rfl
theorem dX11_takePeace_13 : decode cX11_takePeace 13 = .ok (.getfield 21, 3) := dzr zhdX11_takePeace_0 7 rfl
theorem dX11_takePeace_16 : decode cX11_takePeace 16 = .ok (.getfield 393, 3) := dzr zhdX11_takePeace_0 8 rfl
theorem dX11_takePeace_19 : decode cX11_takePeace 19 = .ok (.invokevirtual 395, 3) := dzr zhdX11_takePeace_0 9 rfl
theorem dX11_takePeace_22 : decode cX11_takePeace 22 = .ok (.aload_n 0, 1) := dzr zhdX11_takePeace_0 10 rfl
theorem dX11_takePeace_23 : decode cX11_takePeace 23 = .ok (.getfield 51, 3) := dzr zhdX11_takePeace_0 11 rfl
theorem dX11_takePeace_26 : decode cX11_takePeace 26 = .ok (.invokevirtual 397, 3) := dzr zhdX11_takePeace_0 12 rfl
theorem dX11_takePeace_29 : decode cX11_takePeace 29 = .ok (.aload_n 0, 1) := dzr zhdX11_takePeace_0 13 rfl
theorem dX11_takePeace_30 : decode cX11_takePeace 30 = .ok (.getfield 68, 3) := dzr zhdX11_takePeace_0 14 rfl
theorem dX11_takePeace_33 : decode cX11_takePeace 33 = .ok (.invokevirtual 379, 3) := dzr zhdX11_takePeace_0 15 rfl
theorem dX11_takePeace_36 : decode cX11_takePeace 36 = .ok (.aload_n 0, 1) := dzr zhdX11_takePeace_0 16 rfl
theorem dX11_takePeace_37 : decode cX11_takePeace 37 = .ok (.getfield 81, 3) := dzr zhdX11_takePeace_0 17 rfl
theorem dX11_takePeace_40 : decode cX11_takePeace 40 = .ok (.iconst 0, 1) := dzr zhdX11_takePeace_0 18 rfl
theorem dX11_takePeace_41 : decode cX11_takePeace 41 = .ok (.putfield 309, 3) := dzr zhdX11_takePeace_0 19 rfl
theorem dX11_takePeace_44 : decode cX11_takePeace 44 = .ok (.aload_n 0, 1) := dzr zhdX11_takePeace_0 20 rfl
theorem dX11_takePeace_45 : decode cX11_takePeace 45 = .ok (.iconst 0, 1) := dzr zhdX11_takePeace_0 21 rfl
theorem dX11_takePeace_46 : decode cX11_takePeace 46 = .ok (.putfield 105, 3) := dzr zhdX11_takePeace_0 22 rfl
theorem dX11_takePeace_49 : decode cX11_takePeace 49 = .ok (.aload_n 0, 1) := dzr zhdX11_takePeace_0 23 rfl
def ztdX11_takePeace_50 : List (Nat × Instr × Nat) := [(50, .getfield 35, 3), (53, .getfield 269, 3), (56, .ireturn, 1)]
theorem zhdX11_takePeace_50 : dzC ztdX11_takePeace_50 50 (cX11_takePeace.data.toList.drop 50) = true := by decide +kernel
theorem dX11_takePeace_50 : decode cX11_takePeace 50 = .ok (.getfield 35, 3) := dzr zhdX11_takePeace_50 0 rfl
theorem dX11_takePeace_53 : decode cX11_takePeace 53 = .ok (.getfield 269, 3) := dzr zhdX11_takePeace_50 1 rfl
theorem dX11_takePeace_56 : decode cX11_takePeace 56 = .ok (.ireturn, 1) := dzr zhdX11_takePeace_50 2 rfl
theorem ggX11_takeLaw_X2_add : GoodIn wsX11_takeLaw wsX2_add := (bg_up (bg_law (bi_wsL_law0_r22 _ (List.mem_of_getElem? (i := 1) rfl))))
theorem gX11_takeLaw_X2_add : GoodIn wsX11_takeLaw (wsV RX11 404 RX2 yX2_add wsX2_add) := goodIn_app (bg_up (bg_cons (bi_wsL_law0_r21 _ (List.mem_of_getElem? (i := 22) rfl)) (bg_cons (bi_wsL_law0_r21 _ (List.mem_of_getElem? (i := 23) rfl)) (bg_cons (bi_wsL_law0_r22 _ (List.mem_of_getElem? (i := 0) rfl)) (bg_cons (bi_wsL_law0_r2 _ (List.mem_of_getElem? (i := 8) rfl)) bg_nil))))) (bg_up (bg_law (bi_wsL_law0_r22 _ (List.mem_of_getElem? (i := 1) rfl))))
def ztdX11_takeLaw_0 : List (Nat × Instr × Nat) := [(0, .aload_n 0, 1), (1, .getfield 10, 3), (4, .iconst 0, 1), (5, .putfield 121, 3), (8, .aload_n 0, 1), (9, .getfield 42, 3), (12, .aload_n 0, 1), (13, .getfield 28, 3), (16, .getfield 400, 3), (19, .aload_n 0, 1), (20, .getfield 28, 3), (23, .getfield 403, 3), (26, .invokevirtual 404, 3), (29, .aload_n 0, 1), (30, .getfield 42, 3), (33, .getfield 204, 3), (36, .iconst 1, 1), (37, .isub, 1), (38, .ireturn, 1)]
theorem zhdX11_takeLaw_0 : dzC ztdX11_takeLaw_0 0 (cX11_takeLaw.data.toList.drop 0) = true := by decide +kernel
theorem dX11_takeLaw_0 : decode cX11_takeLaw 0 = .ok (.aload_n 0, 1) := dzr zhdX11_takeLaw_0 0 rfl
theorem dX11_takeLaw_1 : decode cX11_takeLaw 1 = .ok (.getfield 10, 3) := dzr zhdX11_takeLaw_0 1 rfl
theorem dX11_takeLaw_4 : decode cX11_takeLaw 4 = .ok (.iconst 0, 1) := dzr zhdX11_takeLaw_0 2 rfl
theorem dX11_takeLaw_5 : decode cX11_takeLaw 5 = .ok (.putfield 121, 3) := dzr zhdX11_takeLaw_0 3 rfl
theorem dX11_takeLaw_8 : decode cX11_takeLaw 8 = .ok (.aload_n 0, 1) := dzr zhdX11_takeLaw_0 4 rfl
theorem dX11_takeLaw_9 : decode cX11_takeLaw 9 = .ok (.getfield 42, 3) := dzr zhdX11_takeLaw_0 5 rfl
theorem dX11_takeLaw_12 : decode cX11_takeLaw 12 = .ok (.aload_n 0, 1) := dzr zhdX11_takeLaw_0 6 rfl
theorem dX11_takeLaw_13 : decode cX11_takeLaw 13 = .ok (.getfield 28, 3) := dzr zhdX11_takeLaw_0 7 rfl
theorem dX11_takeLaw_16 : decode cX11_takeLaw 16 = .ok (.getfield 400, 3) := dzr zhdX11_takeLaw_0 8 rfl
theorem dX11_takeLaw_19 : decode cX11_takeLaw 19 = .ok (.aload_n 0, 1) := dzr zhdX11_takeLaw_0 9 rfl
theorem dX11_takeLaw_20 : decode cX11_takeLaw 20 = .ok (.getfield 28, 3) := dzr zhdX11_takeLaw_0 10 rfl
theorem dX11_takeLaw_23 : decode cX11_takeLaw 23 = .ok (.getfield 403, 3) := dzr zhdX11_takeLaw_0 11 rfl
theorem dX11_takeLaw_26 : decode cX11_takeLaw 26 = .ok (.invokevirtual 404, 3) := dzr zhdX11_takeLaw_0 12 rfl
theorem dX11_takeLaw_29 : decode cX11_takeLaw 29 = .ok (.aload_n 0, 1) := dzr zhdX11_takeLaw_0 13 rfl
theorem dX11_takeLaw_30 : decode cX11_takeLaw 30 = .ok (.getfield 42, 3) := dzr zhdX11_takeLaw_0 14 rfl
theorem dX11_takeLaw_33 : decode cX11_takeLaw 33 = .ok (.getfield 204, 3) := dzr zhdX11_takeLaw_0 15 rfl
theorem dX11_takeLaw_36 : decode cX11_takeLaw 36 = .ok (.iconst 1, 1) := dzr zhdX11_takeLaw_0 16 rfl
theorem dX11_takeLaw_37 : decode cX11_takeLaw 37 = .ok (.isub, 1) := dzr zhdX11_takeLaw_0 17 rfl
theorem dX11_takeLaw_38 : decode cX11_takeLaw 38 = .ok (.ireturn, 1) := dzr zhdX11_takeLaw_0 18 rfl
theorem ggX11_passDay_X9_cool : GoodIn wsX11_passDay wsX9_cool := (bg_up (bg_law (bi_wsL_law0_r37 _ (List.mem_of_getElem? (i := 3) rfl))))
theorem gX11_passDay_X9_cool : GoodIn wsX11_passDay (wsV RX11 295 RX9 yX9_cool wsX9_cool) := goodIn_app (bg_up (bg_cons (bi_wsL_law0_r37 _ (List.mem_of_getElem? (i := 0) rfl)) (bg_cons (bi_wsL_law0_r37 _ (List.mem_of_getElem? (i := 1) rfl)) (bg_cons (bi_wsL_law0_r37 _ (List.mem_of_getElem? (i := 2) rfl)) (bg_cons (bi_wsL_law0_r2 _ (List.mem_of_getElem? (i := 12) rfl)) bg_nil))))) (bg_up (bg_law (bi_wsL_law0_r37 _ (List.mem_of_getElem? (i := 3) rfl))))
theorem ggX11_passDay_X9_day : GoodIn wsX11_passDay wsX9_day := (bg_up (bg_law (bi_wsL_law0_r29 _ (List.mem_of_getElem? (i := 19) rfl))))
theorem gX11_passDay_X9_day : GoodIn wsX11_passDay (wsV RX11 239 RX9 yX9_day wsX9_day) := goodIn_app (bg_up (bg_cons (bi_wsL_law0_r36 _ (List.mem_of_getElem? (i := 19) rfl)) (bg_cons (bi_wsL_law0_r29 _ (List.mem_of_getElem? (i := 17) rfl)) (bg_cons (bi_wsL_law0_r29 _ (List.mem_of_getElem? (i := 18) rfl)) (bg_cons (bi_wsL_law0_r2 _ (List.mem_of_getElem? (i := 12) rfl)) bg_nil))))) (bg_up (bg_law (bi_wsL_law0_r29 _ (List.mem_of_getElem? (i := 19) rfl))))
theorem ggX11_passDay_X9_metBits : GoodIn wsX11_passDay wsX9_metBits := (bg_up (bg_law (bi_wsL_law0_r37 _ (List.mem_of_getElem? (i := 8) rfl))))
theorem gX11_passDay_X9_metBits : GoodIn wsX11_passDay (wsV RX11 346 RX9 yX9_metBits wsX9_metBits) := goodIn_app (bg_up (bg_cons (bi_wsL_law0_r37 _ (List.mem_of_getElem? (i := 5) rfl)) (bg_cons (bi_wsL_law0_r37 _ (List.mem_of_getElem? (i := 6) rfl)) (bg_cons (bi_wsL_law0_r37 _ (List.mem_of_getElem? (i := 7) rfl)) (bg_cons (bi_wsL_law0_r2 _ (List.mem_of_getElem? (i := 12) rfl)) bg_nil))))) (bg_up (bg_law (bi_wsL_law0_r37 _ (List.mem_of_getElem? (i := 8) rfl))))
theorem ggX11_passDay_J6_bitCount_0f7a4 : GoodIn wsX11_passDay wsJ6_bitCount_0f7a4 := (bg_up (bg_law (bi_wsL_law0_r37 _ (List.mem_of_getElem? (i := 13) rfl))))
theorem gX11_passDay_J6_bitCount_0f7a4 : GoodIn wsX11_passDay (va_wsS RX11 388 yJ6_bitCount_0f7a4 wsJ6_bitCount_0f7a4) := goodIn_app (bg_up (bg_cons (bi_wsL_law0_r37 _ (List.mem_of_getElem? (i := 10) rfl)) (bg_cons (bi_wsL_law0_r37 _ (List.mem_of_getElem? (i := 11) rfl)) (bg_cons (bi_wsL_law0_r37 _ (List.mem_of_getElem? (i := 12) rfl)) bg_nil)))) (bg_up (bg_law (bi_wsL_law0_r37 _ (List.mem_of_getElem? (i := 13) rfl))))
theorem ggX11_passDay_X9_signedToday : GoodIn wsX11_passDay wsX9_signedToday := (bg_up (bg_law (bi_wsL_law0_r37 _ (List.mem_of_getElem? (i := 20) rfl))))
theorem gX11_passDay_X9_signedToday : GoodIn wsX11_passDay (wsV RX11 407 RX9 yX9_signedToday wsX9_signedToday) := goodIn_app (bg_up (bg_cons (bi_wsL_law0_r37 _ (List.mem_of_getElem? (i := 17) rfl)) (bg_cons (bi_wsL_law0_r37 _ (List.mem_of_getElem? (i := 18) rfl)) (bg_cons (bi_wsL_law0_r37 _ (List.mem_of_getElem? (i := 19) rfl)) (bg_cons (bi_wsL_law0_r2 _ (List.mem_of_getElem? (i := 12) rfl)) bg_nil))))) (bg_up (bg_law (bi_wsL_law0_r37 _ (List.mem_of_getElem? (i := 20) rfl))))
theorem ggX11_passDay_X9_warmthOfAll : GoodIn wsX11_passDay wsX9_warmthOfAll := (bg_up (bg_law (bi_wsL_law0_r38 _ (List.mem_of_getElem? (i := 0) rfl))))
theorem gX11_passDay_X9_warmthOfAll : GoodIn wsX11_passDay (wsV RX11 385 RX9 yX9_warmthOfAll wsX9_warmthOfAll) := goodIn_app (bg_up (bg_cons (bi_wsL_law0_r37 _ (List.mem_of_getElem? (i := 21) rfl)) (bg_cons (bi_wsL_law0_r37 _ (List.mem_of_getElem? (i := 22) rfl)) (bg_cons (bi_wsL_law0_r37 _ (List.mem_of_getElem? (i := 23) rfl)) (bg_cons (bi_wsL_law0_r2 _ (List.mem_of_getElem? (i := 12) rfl)) bg_nil))))) (bg_up (bg_law (bi_wsL_law0_r38 _ (List.mem_of_getElem? (i := 0) rfl))))
theorem ggX11_passDay_X3_write : GoodIn wsX11_passDay wsX3_write := (bg_up (bg_law (bi_wsL_law0_r38 _ (List.mem_of_getElem? (i := 4) rfl))))
theorem gX11_passDay_X3_write : GoodIn wsX11_passDay (wsV RX11 410 RX3 yX3_write wsX3_write) := goodIn_app (bg_up (bg_cons (bi_wsL_law0_r38 _ (List.mem_of_getElem? (i := 1) rfl)) (bg_cons (bi_wsL_law0_r38 _ (List.mem_of_getElem? (i := 2) rfl)) (bg_cons (bi_wsL_law0_r38 _ (List.mem_of_getElem? (i := 3) rfl)) (bg_cons (bi_wsL_law0_r2 _ (List.mem_of_getElem? (i := 17) rfl)) bg_nil))))) (bg_up (bg_law (bi_wsL_law0_r38 _ (List.mem_of_getElem? (i := 4) rfl))))
theorem ggX11_passDay_X9_dawn : GoodIn wsX11_passDay wsX9_dawn := (bg_up (bg_law (bi_wsL_law0_r38 _ (List.mem_of_getElem? (i := 8) rfl))))
theorem gX11_passDay_X9_dawn : GoodIn wsX11_passDay (wsV RX11 298 RX9 yX9_dawn wsX9_dawn) := goodIn_app (bg_up (bg_cons (bi_wsL_law0_r38 _ (List.mem_of_getElem? (i := 5) rfl)) (bg_cons (bi_wsL_law0_r38 _ (List.mem_of_getElem? (i := 6) rfl)) (bg_cons (bi_wsL_law0_r38 _ (List.mem_of_getElem? (i := 7) rfl)) (bg_cons (bi_wsL_law0_r2 _ (List.mem_of_getElem? (i := 12) rfl)) bg_nil))))) (bg_up (bg_law (bi_wsL_law0_r38 _ (List.mem_of_getElem? (i := 8) rfl))))
def ztdX11_passDay_0 : List (Nat × Instr × Nat) := [(0, .aload_n 0, 1), (1, .getfield 51, 3), (4, .invokevirtual 295, 3), (7, .aload_n 0, 1), (8, .getfield 61, 3), (11, .aload_n 0, 1), (12, .getfield 51, 3), (15, .invokevirtual 239, 3), (18, .aload_n 0, 1), (19, .getfield 51, 3), (22, .invokevirtual 346, 3), (25, .invokestatic 388, 3), (28, .aload_n 0, 1), (29, .getfield 51, 3), (32, .invokevirtual 407, 3), (35, .aload_n 0, 1), (36, .getfield 51, 3), (39, .invokevirtual 385, 3), (42, .invokevirtual 410, 3), (45, .aload_n 0, 1), (46, .getfield 51, 3), (49, .invokevirtual 298, 3), (52, .return_, 1)]
theorem zhdX11_passDay_0 : dzC ztdX11_passDay_0 0 (cX11_passDay.data.toList.drop 0) = true := by decide +kernel
theorem dX11_passDay_0 : decode cX11_passDay 0 = .ok (.aload_n 0, 1) := dzr zhdX11_passDay_0 0 rfl
theorem dX11_passDay_1 : decode cX11_passDay 1 = .ok (.getfield 51, 3) := dzr zhdX11_passDay_0 1 rfl
theorem dX11_passDay_4 : decode cX11_passDay 4 = .ok (.invokevirtual 295, 3) := dzr zhdX11_passDay_0 2 rfl
theorem dX11_passDay_7 : decode cX11_passDay 7 = .ok (.aload_n 0, 1) := dzr zhdX11_passDay_0 3 rfl
theorem dX11_passDay_8 : decode cX11_passDay 8 = .ok (.getfield 61, 3) := dzr zhdX11_passDay_0 4 rfl
theorem dX11_passDay_11 : decode cX11_passDay 11 = .ok (.aload_n 0, 1) := dzr zhdX11_passDay_0 5 rfl
theorem dX11_passDay_12 : decode cX11_passDay 12 = .ok (.getfield 51, 3) := dzr zhdX11_passDay_0 6 rfl
theorem dX11_passDay_15 : decode cX11_passDay 15 = .ok (.invokevirtual 239, 3) := dzr zhdX11_passDay_0 7 rfl
theorem dX11_passDay_18 : decode cX11_passDay 18 = .ok (.aload_n 0, 1) := dzr zhdX11_passDay_0 8 rfl
theorem dX11_passDay_19 : decode cX11_passDay 19 = .ok (.getfield 51, 3) := dzr zhdX11_passDay_0 9 rfl
theorem dX11_passDay_22 : decode cX11_passDay 22 = .ok (.invokevirtual 346, 3) := dzr zhdX11_passDay_0 10 rfl
theorem dX11_passDay_25 : decode cX11_passDay 25 = .ok (.invokestatic 388, 3) := dzr zhdX11_passDay_0 11 rfl
theorem dX11_passDay_28 : decode cX11_passDay 28 = .ok (.aload_n 0, 1) := dzr zhdX11_passDay_0 12 rfl
theorem dX11_passDay_29 : decode cX11_passDay 29 = .ok (.getfield 51, 3) := dzr zhdX11_passDay_0 13 rfl
theorem dX11_passDay_32 : decode cX11_passDay 32 = .ok (.invokevirtual 407, 3) := dzr zhdX11_passDay_0 14 rfl
theorem dX11_passDay_35 : decode cX11_passDay 35 = .ok (.aload_n 0, 1) := dzr zhdX11_passDay_0 15 rfl
theorem dX11_passDay_36 : decode cX11_passDay 36 = .ok (.getfield 51, 3) := dzr zhdX11_passDay_0 16 rfl
theorem dX11_passDay_39 : decode cX11_passDay 39 = .ok (.invokevirtual 385, 3) := dzr zhdX11_passDay_0 17 rfl
theorem dX11_passDay_42 : decode cX11_passDay 42 = .ok (.invokevirtual 410, 3) := dzr zhdX11_passDay_0 18 rfl
theorem dX11_passDay_45 : decode cX11_passDay 45 = .ok (.aload_n 0, 1) := dzr zhdX11_passDay_0 19 rfl
theorem dX11_passDay_46 : decode cX11_passDay 46 = .ok (.getfield 51, 3) := dzr zhdX11_passDay_0 20 rfl
theorem dX11_passDay_49 : decode cX11_passDay 49 = .ok (.invokevirtual 298, 3) := dzr zhdX11_passDay_0 21 rfl
theorem dX11_passDay_52 : decode cX11_passDay 52 = .ok (.return_, 1) := dzr zhdX11_passDay_0 22 rfl
def ztdX11_draw_0 : List (Nat × Instr × Nat) := [(0, .aload_n 0, 1), (1, .aload_n 0, 1), (2, .getfield 113, 3), (5, .ldc2_w 414, 3), (8, .lmul, 1), (9, .ldc2_w 416, 3), (12, .ladd, 1), (13, .putfield 113, 3), (16, .iload_n 1, 1), (17, .iconst 1, 1), (18, .if_icmp .ge 7, 3), (21, .iconst 0, 1), (22, .goto 14, 3), (25, .aload_n 0, 1), (26, .getfield 113, 3), (29, .bipush 33, 2), (31, .lushr, 1), (32, .iload_n 1, 1), (33, .i2l, 1), (34, .lrem, 1), (35, .l2i, 1), (36, .ireturn, 1)]
theorem zhdX11_draw_0 : dzC ztdX11_draw_0 0 (cX11_draw.data.toList.drop 0) = true := by decide +kernel
theorem dX11_draw_0 : decode cX11_draw 0 = .ok (.aload_n 0, 1) := dzr zhdX11_draw_0 0 rfl
theorem dX11_draw_1 : decode cX11_draw 1 = .ok (.aload_n 0, 1) := dzr zhdX11_draw_0 1 rfl
theorem dX11_draw_2 : decode cX11_draw 2 = .ok (.getfield 113, 3) := dzr zhdX11_draw_0 2 rfl
theorem dX11_draw_5 : decode cX11_draw 5 = .ok (.ldc2_w 414, 3) := dzr zhdX11_draw_0 3 rfl
theorem dX11_draw_8 : decode cX11_draw 8 = .ok (.lmul, 1) := dzr zhdX11_draw_0 4 rfl
theorem dX11_draw_9 : decode cX11_draw 9 = .ok (.ldc2_w 416, 3) := dzr zhdX11_draw_0 5 rfl
theorem dX11_draw_12 : decode cX11_draw 12 = .ok (.ladd, 1) := dzr zhdX11_draw_0 6 rfl
theorem dX11_draw_13 : decode cX11_draw 13 = .ok (.putfield 113, 3) := dzr zhdX11_draw_0 7 rfl
theorem dX11_draw_16 : decode cX11_draw 16 = .ok (.iload_n 1, 1) := dzr zhdX11_draw_0 8 rfl
theorem dX11_draw_17 : decode cX11_draw 17 = .ok (.iconst 1, 1) := dzr zhdX11_draw_0 9 rfl
theorem dX11_draw_18 : decode cX11_draw 18 = .ok (.if_icmp .ge 7, 3) := dzr zhdX11_draw_0 10 rfl
theorem dX11_draw_21 : decode cX11_draw 21 = .ok (.iconst 0, 1) := dzr zhdX11_draw_0 11 rfl
theorem dX11_draw_22 : decode cX11_draw 22 = .ok (.goto 14, 3) := dzr zhdX11_draw_0 12 rfl
theorem dX11_draw_25 : decode cX11_draw 25 = .ok (.aload_n 0, 1) := dzr zhdX11_draw_0 13 rfl
theorem dX11_draw_26 : decode cX11_draw 26 = .ok (.getfield 113, 3) := dzr zhdX11_draw_0 14 rfl
theorem dX11_draw_29 : decode cX11_draw 29 = .ok (.bipush 33, 2) := dzr zhdX11_draw_0 15 rfl
theorem dX11_draw_31 : decode cX11_draw 31 = .ok (.lushr, 1) := dzr zhdX11_draw_0 16 rfl
theorem dX11_draw_32 : decode cX11_draw 32 = .ok (.iload_n 1, 1) := dzr zhdX11_draw_0 17 rfl
theorem dX11_draw_33 : decode cX11_draw 33 = .ok (.i2l, 1) := dzr zhdX11_draw_0 18 rfl
theorem dX11_draw_34 : decode cX11_draw 34 = .ok (.lrem, 1) := dzr zhdX11_draw_0 19 rfl
theorem dX11_draw_35 : decode cX11_draw 35 = .ok (.l2i, 1) := dzr zhdX11_draw_0 20 rfl
theorem dX11_draw_36 : decode cX11_draw 36 = .ok (.ireturn, 1) := dzr zhdX11_draw_0 21 rfl
theorem ggX11_drawMeeting_X11_draw : GoodIn wsX11_drawMeeting wsX11_draw := (bg_up (bg_law (bi_wsL_law0_r40 _ (List.mem_of_getElem? (i := 8) rfl))))
theorem gX11_drawMeeting_X11_draw : GoodIn wsX11_drawMeeting (wsV RX11 248 RX11 yX11_draw wsX11_draw) := goodIn_app (bg_up (bg_cons (bi_wsL_law0_r40 _ (List.mem_of_getElem? (i := 5) rfl)) (bg_cons (bi_wsL_law0_r40 _ (List.mem_of_getElem? (i := 6) rfl)) (bg_cons (bi_wsL_law0_r40 _ (List.mem_of_getElem? (i := 7) rfl)) (bg_cons (bi_wsL_law0_r1 _ (List.mem_of_getElem? (i := 2) rfl)) bg_nil))))) (bg_up (bg_law (bi_wsL_law0_r40 _ (List.mem_of_getElem? (i := 8) rfl))))
theorem ggX11_drawMeeting_X5_unlike : GoodIn wsX11_drawMeeting wsX5_unlike := (bg_up (bg_law (bi_wsL_law0_r26 _ (List.mem_of_getElem? (i := 21) rfl))))
theorem gX11_drawMeeting_X5_unlike : GoodIn wsX11_drawMeeting (wsV RX11 196 RX5 yX5_unlike wsX5_unlike) := goodIn_app (bg_up (bg_cons (bi_wsL_law0_r26 _ (List.mem_of_getElem? (i := 18) rfl)) (bg_cons (bi_wsL_law0_r26 _ (List.mem_of_getElem? (i := 19) rfl)) (bg_cons (bi_wsL_law0_r26 _ (List.mem_of_getElem? (i := 20) rfl)) (bg_cons (bi_wsL_law0_r2 _ (List.mem_of_getElem? (i := 4) rfl)) bg_nil))))) (bg_up (bg_law (bi_wsL_law0_r26 _ (List.mem_of_getElem? (i := 21) rfl))))
theorem ggX11_drawMeeting_X9_hasMet : GoodIn wsX11_drawMeeting wsX9_hasMet := (bg_up (bg_law (bi_wsL_law0_r24 _ (List.mem_of_getElem? (i := 22) rfl))))
theorem gX11_drawMeeting_X9_hasMet : GoodIn wsX11_drawMeeting (wsV RX11 178 RX9 yX9_hasMet wsX9_hasMet) := goodIn_app (bg_up (bg_cons (bi_wsL_law0_r24 _ (List.mem_of_getElem? (i := 19) rfl)) (bg_cons (bi_wsL_law0_r24 _ (List.mem_of_getElem? (i := 20) rfl)) (bg_cons (bi_wsL_law0_r24 _ (List.mem_of_getElem? (i := 21) rfl)) (bg_cons (bi_wsL_law0_r2 _ (List.mem_of_getElem? (i := 12) rfl)) bg_nil))))) (bg_up (bg_law (bi_wsL_law0_r24 _ (List.mem_of_getElem? (i := 22) rfl))))
theorem ggX11_drawMeeting_X9_meet : GoodIn wsX11_drawMeeting wsX9_meet := (bg_up (bg_law (bi_wsL_law0_r29 _ (List.mem_of_getElem? (i := 8) rfl))))
theorem gX11_drawMeeting_X9_meet : GoodIn wsX11_drawMeeting (wsV RX11 220 RX9 yX9_meet wsX9_meet) := goodIn_app (bg_up (bg_cons (bi_wsL_law0_r29 _ (List.mem_of_getElem? (i := 5) rfl)) (bg_cons (bi_wsL_law0_r29 _ (List.mem_of_getElem? (i := 6) rfl)) (bg_cons (bi_wsL_law0_r29 _ (List.mem_of_getElem? (i := 7) rfl)) (bg_cons (bi_wsL_law0_r2 _ (List.mem_of_getElem? (i := 12) rfl)) bg_nil))))) (bg_up (bg_law (bi_wsL_law0_r29 _ (List.mem_of_getElem? (i := 8) rfl))))
def ztdX11_drawMeeting_0 : List (Nat × Instr × Nat) := [(0, .aload_n 0, 1), (1, .aload_n 0, 1), (2, .getfield 35, 3), (5, .getfield 269, 3), (8, .invokevirtual 248, 3), (11, .istore_n 1, 1), (12, .aload_n 0, 1), (13, .aload_n 0, 1), (14, .getfield 35, 3), (17, .getfield 269, 3), (20, .invokevirtual 248, 3), (23, .istore_n 2, 1), (24, .aload_n 0, 1), (25, .getfield 35, 3), (28, .iload_n 1, 1), (29, .iload_n 2, 1), (30, .invokevirtual 196, 3), (33, .ifCond .eq 34, 3), (36, .aload_n 0, 1), (37, .getfield 51, 3), (40, .iload_n 1, 1), (41, .invokevirtual 178, 3), (44, .ifCond .ne 23, 3), (47, .aload_n 0, 1)]
theorem zhdX11_drawMeeting_0 : dzC ztdX11_drawMeeting_0 0 (cX11_drawMeeting.data.toList.drop 0) = true := by decide +kernel
theorem dX11_drawMeeting_0 : decode cX11_drawMeeting 0 = .ok (.aload_n 0, 1) := dzr zhdX11_drawMeeting_0 0 rfl
theorem dX11_drawMeeting_1 : decode cX11_drawMeeting 1 = .ok (.aload_n 0, 1) := dzr zhdX11_drawMeeting_0 1 rfl
theorem dX11_drawMeeting_2 : decode cX11_drawMeeting 2 = .ok (.getfield 35, 3) := dzr zhdX11_drawMeeting_0 2 rfl
theorem dX11_drawMeeting_5 : decode cX11_drawMeeting 5 = .ok (.getfield 269, 3) := dzr zhdX11_drawMeeting_0 3 rfl
theorem dX11_drawMeeting_8 : decode cX11_drawMeeting 8 = .ok (.invokevirtual 248, 3) := dzr zhdX11_drawMeeting_0 4 rfl
theorem dX11_drawMeeting_11 : decode cX11_drawMeeting 11 = .ok (.istore_n 1, 1) := dzr zhdX11_drawMeeting_0 5 rfl
theorem dX11_drawMeeting_12 : decode cX11_drawMeeting 12 = .ok (.aload_n 0, 1) := dzr zhdX11_drawMeeting_0 6 rfl
theorem dX11_drawMeeting_13 : decode cX11_drawMeeting 13 = .ok (.aload_n 0, 1) := dzr zhdX11_drawMeeting_0 7 rfl
theorem dX11_drawMeeting_14 : decode cX11_drawMeeting 14 = .ok (.getfield 35, 3) := dzr zhdX11_drawMeeting_0 8 rfl
theorem dX11_drawMeeting_17 : decode cX11_drawMeeting 17 = .ok (.getfield 269, 3) := dzr zhdX11_drawMeeting_0 9 rfl
theorem dX11_drawMeeting_20 : decode cX11_drawMeeting 20 = .ok (.invokevirtual 248, 3) := dzr zhdX11_drawMeeting_0 10 rfl
theorem dX11_drawMeeting_23 : decode cX11_drawMeeting 23 = .ok (.istore_n 2, 1) := dzr zhdX11_drawMeeting_0 11 rfl
theorem dX11_drawMeeting_24 : decode cX11_drawMeeting 24 = .ok (.aload_n 0, 1) := dzr zhdX11_drawMeeting_0 12 rfl
theorem dX11_drawMeeting_25 : decode cX11_drawMeeting 25 = .ok (.getfield 35, 3) := dzr zhdX11_drawMeeting_0 13 rfl
theorem dX11_drawMeeting_28 : decode cX11_drawMeeting 28 = .ok (.iload_n 1, 1) := dzr zhdX11_drawMeeting_0 14 rfl
theorem dX11_drawMeeting_29 : decode cX11_drawMeeting 29 = .ok (.iload_n 2, 1) := dzr zhdX11_drawMeeting_0 15 rfl
theorem dX11_drawMeeting_30 : decode cX11_drawMeeting 30 = .ok (.invokevirtual 196, 3) := dzr zhdX11_drawMeeting_0 16 rfl
theorem dX11_drawMeeting_33 : decode cX11_drawMeeting 33 = .ok (.ifCond .eq 34, 3) := dzr zhdX11_drawMeeting_0 17 rfl
theorem dX11_drawMeeting_36 : decode cX11_drawMeeting 36 = .ok (.aload_n 0, 1) := dzr zhdX11_drawMeeting_0 18 rfl
theorem dX11_drawMeeting_37 : decode cX11_drawMeeting 37 = .ok (.getfield 51, 3) := dzr zhdX11_drawMeeting_0 19 rfl
theorem dX11_drawMeeting_40 : decode cX11_drawMeeting 40 = .ok (.iload_n 1, 1) := dzr zhdX11_drawMeeting_0 20 rfl
theorem dX11_drawMeeting_41 : decode cX11_drawMeeting 41 = .ok (.invokevirtual 178, 3) := dzr zhdX11_drawMeeting_0 21 rfl
theorem dX11_drawMeeting_44 : decode cX11_drawMeeting 44 = .ok (.ifCond .ne 23, 3) := dzr zhdX11_drawMeeting_0 22 rfl
theorem dX11_drawMeeting_47 : decode cX11_drawMeeting 47 = .ok (.aload_n 0, 1) := dzr zhdX11_drawMeeting_0 23 rfl
def ztdX11_drawMeeting_48 : List (Nat × Instr × Nat) := [(48, .getfield 51, 3), (51, .iload_n 2, 1), (52, .invokevirtual 178, 3), (55, .ifCond .ne 12, 3), (58, .aload_n 0, 1), (59, .getfield 51, 3), (62, .iload_n 1, 1), (63, .iload_n 2, 1), (64, .invokevirtual 220, 3), (67, .return_, 1)]
theorem zhdX11_drawMeeting_48 : dzC ztdX11_drawMeeting_48 48 (cX11_drawMeeting.data.toList.drop 48) = true := by decide +kernel
theorem dX11_drawMeeting_48 : decode cX11_drawMeeting 48 = .ok (.getfield 51, 3) := dzr zhdX11_drawMeeting_48 0 rfl
theorem dX11_drawMeeting_51 : decode cX11_drawMeeting 51 = .ok (.iload_n 2, 1) := dzr zhdX11_drawMeeting_48 1 rfl
theorem dX11_drawMeeting_52 : decode cX11_drawMeeting 52 = .ok (.invokevirtual 178, 3) := dzr zhdX11_drawMeeting_48 2 rfl
theorem dX11_drawMeeting_55 : decode cX11_drawMeeting 55 = .ok (.ifCond .ne 12, 3) := dzr zhdX11_drawMeeting_48 3 rfl
theorem dX11_drawMeeting_58 : decode cX11_drawMeeting 58 = .ok (.aload_n 0, 1) := dzr zhdX11_drawMeeting_48 4 rfl
theorem dX11_drawMeeting_59 : decode cX11_drawMeeting 59 = .ok (.getfield 51, 3) := dzr zhdX11_drawMeeting_48 5 rfl
theorem dX11_drawMeeting_62 : decode cX11_drawMeeting 62 = .ok (.iload_n 1, 1) := dzr zhdX11_drawMeeting_48 6 rfl
theorem dX11_drawMeeting_63 : decode cX11_drawMeeting 63 = .ok (.iload_n 2, 1) := dzr zhdX11_drawMeeting_48 7 rfl
theorem dX11_drawMeeting_64 : decode cX11_drawMeeting 64 = .ok (.invokevirtual 220, 3) := dzr zhdX11_drawMeeting_48 8 rfl
theorem dX11_drawMeeting_67 : decode cX11_drawMeeting 67 = .ok (.return_, 1) := dzr zhdX11_drawMeeting_48 9 rfl
theorem ggX11_daysUntil_X9_warmthOf : GoodIn wsX11_daysUntil wsX9_warmthOf := (bg_up (bg_law (bi_wsL_law0_r27 _ (List.mem_of_getElem? (i := 2) rfl))))
theorem gX11_daysUntil_X9_warmthOf : GoodIn wsX11_daysUntil (wsV RX11 200 RX9 yX9_warmthOf wsX9_warmthOf) := goodIn_app (bg_up (bg_cons (bi_wsL_law0_r26 _ (List.mem_of_getElem? (i := 23) rfl)) (bg_cons (bi_wsL_law0_r27 _ (List.mem_of_getElem? (i := 0) rfl)) (bg_cons (bi_wsL_law0_r27 _ (List.mem_of_getElem? (i := 1) rfl)) (bg_cons (bi_wsL_law0_r2 _ (List.mem_of_getElem? (i := 12) rfl)) bg_nil))))) (bg_up (bg_law (bi_wsL_law0_r27 _ (List.mem_of_getElem? (i := 2) rfl))))
theorem ggX11_daysUntil_X9_warmer : GoodIn wsX11_daysUntil wsX9_warmer := (bg_up (bg_law (bi_wsL_law0_r29 _ (List.mem_of_getElem? (i := 13) rfl))))
theorem gX11_daysUntil_X9_warmer : GoodIn wsX11_daysUntil (wsV RX11 265 RX9 yX9_warmer wsX9_warmer) := goodIn_app (bg_up (bg_cons (bi_wsL_law0_r43 _ (List.mem_of_getElem? (i := 9) rfl)) (bg_cons (bi_wsL_law0_r29 _ (List.mem_of_getElem? (i := 11) rfl)) (bg_cons (bi_wsL_law0_r29 _ (List.mem_of_getElem? (i := 12) rfl)) (bg_cons (bi_wsL_law0_r2 _ (List.mem_of_getElem? (i := 12) rfl)) bg_nil))))) (bg_up (bg_law (bi_wsL_law0_r29 _ (List.mem_of_getElem? (i := 13) rfl))))
def ztdX11_daysUntil_0 : List (Nat × Instr × Nat) := [(0, .aload_n 0, 1), (1, .getfield 51, 3), (4, .iload_n 1, 1), (5, .iload_n 2, 1), (6, .invokevirtual 200, 3), (9, .istore 4, 2), (11, .iconst 0, 1), (12, .istore 5, 2), (14, .iload 5, 2), (16, .bipush 60, 2), (18, .if_icmp .gt 33, 3), (21, .iload 4, 2), (23, .iload_n 3, 1), (24, .if_icmp .lt 6, 3), (27, .iload 5, 2), (29, .ireturn, 1), (30, .aload_n 0, 1), (31, .getfield 51, 3), (34, .iload_n 1, 1), (35, .iload_n 2, 1), (36, .iload 4, 2), (38, .iload 5, 2), (40, .invokevirtual 265, 3), (43, .istore 4, 2)]
theorem zhdX11_daysUntil_0 : dzC ztdX11_daysUntil_0 0 (cX11_daysUntil.data.toList.drop 0) = true := by decide +kernel
theorem dX11_daysUntil_0 : decode cX11_daysUntil 0 = .ok (.aload_n 0, 1) := dzr zhdX11_daysUntil_0 0 rfl
theorem dX11_daysUntil_1 : decode cX11_daysUntil 1 = .ok (.getfield 51, 3) := dzr zhdX11_daysUntil_0 1 rfl
theorem dX11_daysUntil_4 : decode cX11_daysUntil 4 = .ok (.iload_n 1, 1) := dzr zhdX11_daysUntil_0 2 rfl
theorem dX11_daysUntil_5 : decode cX11_daysUntil 5 = .ok (.iload_n 2, 1) := dzr zhdX11_daysUntil_0 3 rfl
theorem dX11_daysUntil_6 : decode cX11_daysUntil 6 = .ok (.invokevirtual 200, 3) := dzr zhdX11_daysUntil_0 4 rfl
theorem dX11_daysUntil_9 : decode cX11_daysUntil 9 = .ok (.istore 4, 2) := dzr zhdX11_daysUntil_0 5 rfl
theorem dX11_daysUntil_11 : decode cX11_daysUntil 11 = .ok (.iconst 0, 1) := dzr zhdX11_daysUntil_0 6 rfl
theorem dX11_daysUntil_12 : decode cX11_daysUntil 12 = .ok (.istore 5, 2) := dzr zhdX11_daysUntil_0 7 rfl
theorem dX11_daysUntil_14 : decode cX11_daysUntil 14 = .ok (.iload 5, 2) := dzr zhdX11_daysUntil_0 8 rfl
theorem dX11_daysUntil_16 : decode cX11_daysUntil 16 = .ok (.bipush 60, 2) := dzr zhdX11_daysUntil_0 9 rfl
theorem dX11_daysUntil_18 : decode cX11_daysUntil 18 = .ok (.if_icmp .gt 33, 3) := dzr zhdX11_daysUntil_0 10 rfl
theorem dX11_daysUntil_21 : decode cX11_daysUntil 21 = .ok (.iload 4, 2) := dzr zhdX11_daysUntil_0 11 rfl
theorem dX11_daysUntil_23 : decode cX11_daysUntil 23 = .ok (.iload_n 3, 1) := dzr zhdX11_daysUntil_0 12 rfl
theorem dX11_daysUntil_24 : decode cX11_daysUntil 24 = .ok (.if_icmp .lt 6, 3) := dzr zhdX11_daysUntil_0 13 rfl
theorem dX11_daysUntil_27 : decode cX11_daysUntil 27 = .ok (.iload 5, 2) := dzr zhdX11_daysUntil_0 14 rfl
theorem dX11_daysUntil_29 : decode cX11_daysUntil 29 = .ok (.ireturn, 1) := dzr zhdX11_daysUntil_0 15 rfl
theorem dX11_daysUntil_30 : decode cX11_daysUntil 30 = .ok (.aload_n 0, 1) := dzr zhdX11_daysUntil_0 16 rfl
theorem dX11_daysUntil_31 : decode cX11_daysUntil 31 = .ok (.getfield 51, 3) := dzr zhdX11_daysUntil_0 17 rfl
theorem dX11_daysUntil_34 : decode cX11_daysUntil 34 = .ok (.iload_n 1, 1) := dzr zhdX11_daysUntil_0 18 rfl
theorem dX11_daysUntil_35 : decode cX11_daysUntil 35 = .ok (.iload_n 2, 1) := dzr zhdX11_daysUntil_0 19 rfl
theorem dX11_daysUntil_36 : decode cX11_daysUntil 36 = .ok (.iload 4, 2) := dzr zhdX11_daysUntil_0 20 rfl
theorem dX11_daysUntil_38 : decode cX11_daysUntil 38 = .ok (.iload 5, 2) := dzr zhdX11_daysUntil_0 21 rfl
theorem dX11_daysUntil_40 : decode cX11_daysUntil 40 = .ok (.invokevirtual 265, 3) := dzr zhdX11_daysUntil_0 22 rfl
theorem dX11_daysUntil_43 : decode cX11_daysUntil 43 = .ok (.istore 4, 2) := dzr zhdX11_daysUntil_0 23 rfl
def ztdX11_daysUntil_45 : List (Nat × Instr × Nat) := [(45, .iinc 5 1, 3), (48, .goto (-34), 3), (51, .bipush 61, 2), (53, .ireturn, 1)]
theorem zhdX11_daysUntil_45 : dzC ztdX11_daysUntil_45 45 (cX11_daysUntil.data.toList.drop 45) = true := by decide +kernel
theorem dX11_daysUntil_45 : decode cX11_daysUntil 45 = .ok (.iinc 5 1, 3) := dzr zhdX11_daysUntil_45 0 rfl
theorem dX11_daysUntil_48 : decode cX11_daysUntil 48 = .ok (.goto (-34), 3) := dzr zhdX11_daysUntil_45 1 rfl
theorem dX11_daysUntil_51 : decode cX11_daysUntil 51 = .ok (.bipush 61, 2) := dzr zhdX11_daysUntil_45 2 rfl
theorem dX11_daysUntil_53 : decode cX11_daysUntil 53 = .ok (.ireturn, 1) := dzr zhdX11_daysUntil_45 3 rfl
theorem ggX11_leastGain_X5_unlike : GoodIn wsX11_leastGain wsX5_unlike := (bg_up (bg_law (bi_wsL_law0_r26 _ (List.mem_of_getElem? (i := 21) rfl))))
theorem gX11_leastGain_X5_unlike : GoodIn wsX11_leastGain (wsV RX11 196 RX5 yX5_unlike wsX5_unlike) := goodIn_app (bg_up (bg_cons (bi_wsL_law0_r26 _ (List.mem_of_getElem? (i := 18) rfl)) (bg_cons (bi_wsL_law0_r26 _ (List.mem_of_getElem? (i := 19) rfl)) (bg_cons (bi_wsL_law0_r26 _ (List.mem_of_getElem? (i := 20) rfl)) (bg_cons (bi_wsL_law0_r2 _ (List.mem_of_getElem? (i := 4) rfl)) bg_nil))))) (bg_up (bg_law (bi_wsL_law0_r26 _ (List.mem_of_getElem? (i := 21) rfl))))
theorem ggX11_leastGain_X9_gains : GoodIn wsX11_leastGain wsX9_gains := (bg_up (bg_law (bi_wsL_law0_r50 _ (List.mem_of_getElem? (i := 18) rfl))))
theorem gX11_leastGain_X9_gains : GoodIn wsX11_leastGain (wsV RX11 322 RX9 yX9_gains wsX9_gains) := goodIn_app (bg_up (bg_cons (bi_wsL_law0_r50 _ (List.mem_of_getElem? (i := 15) rfl)) (bg_cons (bi_wsL_law0_r50 _ (List.mem_of_getElem? (i := 16) rfl)) (bg_cons (bi_wsL_law0_r50 _ (List.mem_of_getElem? (i := 17) rfl)) (bg_cons (bi_wsL_law0_r2 _ (List.mem_of_getElem? (i := 12) rfl)) bg_nil))))) (bg_up (bg_law (bi_wsL_law0_r50 _ (List.mem_of_getElem? (i := 18) rfl))))
def ztdX11_leastGain_0 : List (Nat × Instr × Nat) := [(0, .bipush 9, 2), (2, .istore_n 2, 1), (3, .iconst 0, 1), (4, .istore_n 3, 1), (5, .iload_n 3, 1), (6, .aload_n 0, 1), (7, .getfield 35, 3), (10, .getfield 269, 3), (13, .if_icmp .ge 35, 3), (16, .aload_n 0, 1), (17, .getfield 35, 3), (20, .iload_n 1, 1), (21, .iload_n 3, 1), (22, .invokevirtual 196, 3), (25, .ifCond .eq 17, 3), (28, .iload_n 2, 1), (29, .aload_n 0, 1), (30, .getfield 51, 3), (33, .iload_n 1, 1), (34, .iload_n 3, 1), (35, .invokevirtual 322, 3), (38, .invokestatic 418, 3), (41, .istore_n 2, 1), (42, .iinc 3 1, 3)]
theorem zhdX11_leastGain_0 : dzC ztdX11_leastGain_0 0 (cX11_leastGain.data.toList.drop 0) = true := by decide +kernel
theorem dX11_leastGain_0 : decode cX11_leastGain 0 = .ok (.bipush 9, 2) := dzr zhdX11_leastGain_0 0 rfl
theorem dX11_leastGain_2 : decode cX11_leastGain 2 = .ok (.istore_n 2, 1) := dzr zhdX11_leastGain_0 1 rfl
theorem dX11_leastGain_3 : decode cX11_leastGain 3 = .ok (.iconst 0, 1) := dzr zhdX11_leastGain_0 2 rfl
theorem dX11_leastGain_4 : decode cX11_leastGain 4 = .ok (.istore_n 3, 1) := dzr zhdX11_leastGain_0 3 rfl
theorem dX11_leastGain_5 : decode cX11_leastGain 5 = .ok (.iload_n 3, 1) := dzr zhdX11_leastGain_0 4 rfl
theorem dX11_leastGain_6 : decode cX11_leastGain 6 = .ok (.aload_n 0, 1) := dzr zhdX11_leastGain_0 5 rfl
theorem dX11_leastGain_7 : decode cX11_leastGain 7 = .ok (.getfield 35, 3) := dzr zhdX11_leastGain_0 6 rfl
theorem dX11_leastGain_10 : decode cX11_leastGain 10 = .ok (.getfield 269, 3) := dzr zhdX11_leastGain_0 7 rfl
theorem dX11_leastGain_13 : decode cX11_leastGain 13 = .ok (.if_icmp .ge 35, 3) := dzr zhdX11_leastGain_0 8 rfl
theorem dX11_leastGain_16 : decode cX11_leastGain 16 = .ok (.aload_n 0, 1) := dzr zhdX11_leastGain_0 9 rfl
theorem dX11_leastGain_17 : decode cX11_leastGain 17 = .ok (.getfield 35, 3) := dzr zhdX11_leastGain_0 10 rfl
theorem dX11_leastGain_20 : decode cX11_leastGain 20 = .ok (.iload_n 1, 1) := dzr zhdX11_leastGain_0 11 rfl
theorem dX11_leastGain_21 : decode cX11_leastGain 21 = .ok (.iload_n 3, 1) := dzr zhdX11_leastGain_0 12 rfl
theorem dX11_leastGain_22 : decode cX11_leastGain 22 = .ok (.invokevirtual 196, 3) := dzr zhdX11_leastGain_0 13 rfl
theorem dX11_leastGain_25 : decode cX11_leastGain 25 = .ok (.ifCond .eq 17, 3) := dzr zhdX11_leastGain_0 14 rfl
theorem dX11_leastGain_28 : decode cX11_leastGain 28 = .ok (.iload_n 2, 1) := dzr zhdX11_leastGain_0 15 rfl
theorem dX11_leastGain_29 : decode cX11_leastGain 29 = .ok (.aload_n 0, 1) := dzr zhdX11_leastGain_0 16 rfl
theorem dX11_leastGain_30 : decode cX11_leastGain 30 = .ok (.getfield 51, 3) := dzr zhdX11_leastGain_0 17 rfl
theorem dX11_leastGain_33 : decode cX11_leastGain 33 = .ok (.iload_n 1, 1) := dzr zhdX11_leastGain_0 18 rfl
theorem dX11_leastGain_34 : decode cX11_leastGain 34 = .ok (.iload_n 3, 1) := dzr zhdX11_leastGain_0 19 rfl
theorem dX11_leastGain_35 : decode cX11_leastGain 35 = .ok (.invokevirtual 322, 3) := dzr zhdX11_leastGain_0 20 rfl
theorem dX11_leastGain_38 : decode cX11_leastGain 38 = .ok (.invokestatic 418, 3) := dzr zhdX11_leastGain_0 21 rfl
theorem dX11_leastGain_41 : decode cX11_leastGain 41 = .ok (.istore_n 2, 1) := dzr zhdX11_leastGain_0 22 rfl
theorem dX11_leastGain_42 : decode cX11_leastGain 42 = .ok (.iinc 3 1, 3) := dzr zhdX11_leastGain_0 23 rfl
def ztdX11_leastGain_45 : List (Nat × Instr × Nat) := [(45, .goto (-40), 3), (48, .iload_n 2, 1), (49, .ireturn, 1)]
theorem zhdX11_leastGain_45 : dzC ztdX11_leastGain_45 45 (cX11_leastGain.data.toList.drop 45) = true := by decide +kernel
theorem dX11_leastGain_45 : decode cX11_leastGain 45 = .ok (.goto (-40), 3) := dzr zhdX11_leastGain_45 0 rfl
theorem dX11_leastGain_48 : decode cX11_leastGain 48 = .ok (.iload_n 2, 1) := dzr zhdX11_leastGain_45 1 rfl
theorem dX11_leastGain_49 : decode cX11_leastGain 49 = .ok (.ireturn, 1) := dzr zhdX11_leastGain_45 2 rfl
theorem ggX11_isRest_X9_gains : GoodIn wsX11_isRest wsX9_gains := (bg_up (bg_law (bi_wsL_law0_r50 _ (List.mem_of_getElem? (i := 18) rfl))))
theorem gX11_isRest_X9_gains : GoodIn wsX11_isRest (wsV RX11 322 RX9 yX9_gains wsX9_gains) := goodIn_app (bg_up (bg_cons (bi_wsL_law0_r50 _ (List.mem_of_getElem? (i := 15) rfl)) (bg_cons (bi_wsL_law0_r50 _ (List.mem_of_getElem? (i := 16) rfl)) (bg_cons (bi_wsL_law0_r50 _ (List.mem_of_getElem? (i := 17) rfl)) (bg_cons (bi_wsL_law0_r2 _ (List.mem_of_getElem? (i := 12) rfl)) bg_nil))))) (bg_up (bg_law (bi_wsL_law0_r50 _ (List.mem_of_getElem? (i := 18) rfl))))
def ztdX11_isRest_0 : List (Nat × Instr × Nat) := [(0, .aload_n 0, 1), (1, .getfield 51, 3), (4, .iload_n 1, 1), (5, .iload_n 2, 1), (6, .invokevirtual 322, 3), (9, .istore_n 3, 1), (10, .aload_n 0, 1), (11, .getfield 51, 3), (14, .iload_n 2, 1), (15, .iload_n 1, 1), (16, .invokevirtual 322, 3), (19, .istore 4, 2), (21, .iconst 0, 1), (22, .istore 5, 2), (24, .iload 5, 2), (26, .aload_n 0, 1), (27, .getfield 35, 3), (30, .getfield 269, 3), (33, .if_icmp .ge 73, 3), (36, .aload_n 0, 1), (37, .getfield 35, 3), (40, .getfield 166, 3), (43, .iload 5, 2), (45, .iaload, 1)]
theorem zhdX11_isRest_0 : dzC ztdX11_isRest_0 0 (cX11_isRest.data.toList.drop 0) = true := by decide +kernel
theorem dX11_isRest_0 : decode cX11_isRest 0 = .ok (.aload_n 0, 1) := dzr zhdX11_isRest_0 0 rfl
theorem dX11_isRest_1 : decode cX11_isRest 1 = .ok (.getfield 51, 3) := dzr zhdX11_isRest_0 1 rfl
theorem dX11_isRest_4 : decode cX11_isRest 4 = .ok (.iload_n 1, 1) := dzr zhdX11_isRest_0 2 rfl
theorem dX11_isRest_5 : decode cX11_isRest 5 = .ok (.iload_n 2, 1) := dzr zhdX11_isRest_0 3 rfl
theorem dX11_isRest_6 : decode cX11_isRest 6 = .ok (.invokevirtual 322, 3) := dzr zhdX11_isRest_0 4 rfl
theorem dX11_isRest_9 : decode cX11_isRest 9 = .ok (.istore_n 3, 1) := dzr zhdX11_isRest_0 5 rfl
theorem dX11_isRest_10 : decode cX11_isRest 10 = .ok (.aload_n 0, 1) := dzr zhdX11_isRest_0 6 rfl
theorem dX11_isRest_11 : decode cX11_isRest 11 = .ok (.getfield 51, 3) := dzr zhdX11_isRest_0 7 rfl
theorem dX11_isRest_14 : decode cX11_isRest 14 = .ok (.iload_n 2, 1) := dzr zhdX11_isRest_0 8 rfl
theorem dX11_isRest_15 : decode cX11_isRest 15 = .ok (.iload_n 1, 1) := dzr zhdX11_isRest_0 9 rfl
theorem dX11_isRest_16 : decode cX11_isRest 16 = .ok (.invokevirtual 322, 3) := dzr zhdX11_isRest_0 10 rfl
theorem dX11_isRest_19 : decode cX11_isRest 19 = .ok (.istore 4, 2) := dzr zhdX11_isRest_0 11 rfl
theorem dX11_isRest_21 : decode cX11_isRest 21 = .ok (.iconst 0, 1) := dzr zhdX11_isRest_0 12 rfl
theorem dX11_isRest_22 : decode cX11_isRest 22 = .ok (.istore 5, 2) := dzr zhdX11_isRest_0 13 rfl
theorem dX11_isRest_24 : decode cX11_isRest 24 = .ok (.iload 5, 2) := dzr zhdX11_isRest_0 14 rfl
theorem dX11_isRest_26 : decode cX11_isRest 26 = .ok (.aload_n 0, 1) := dzr zhdX11_isRest_0 15 rfl
theorem dX11_isRest_27 : decode cX11_isRest 27 = .ok (.getfield 35, 3) := dzr zhdX11_isRest_0 16 rfl
theorem dX11_isRest_30 : decode cX11_isRest 30 = .ok (.getfield 269, 3) := dzr zhdX11_isRest_0 17 rfl
theorem dX11_isRest_33 : decode cX11_isRest 33 = .ok (.if_icmp .ge 73, 3) := dzr zhdX11_isRest_0 18 rfl
theorem dX11_isRest_36 : decode cX11_isRest 36 = .ok (.aload_n 0, 1) := dzr zhdX11_isRest_0 19 rfl
theorem dX11_isRest_37 : decode cX11_isRest 37 = .ok (.getfield 35, 3) := dzr zhdX11_isRest_0 20 rfl
theorem dX11_isRest_40 : decode cX11_isRest 40 = .ok (.getfield 166, 3) := dzr zhdX11_isRest_0 21 rfl
theorem dX11_isRest_43 : decode cX11_isRest 43 = .ok (.iload 5, 2) := dzr zhdX11_isRest_0 22 rfl
theorem dX11_isRest_45 : decode cX11_isRest 45 = .ok (.iaload, 1) := dzr zhdX11_isRest_0 23 rfl
def ztdX11_isRest_46 : List (Nat × Instr × Nat) := [(46, .ifCond .ne 25, 3), (49, .aload_n 0, 1), (50, .getfield 51, 3), (53, .iload 5, 2), (55, .iload_n 2, 1), (56, .invokevirtual 322, 3), (59, .iload_n 3, 1), (60, .if_icmp .le 7, 3), (63, .iconst 1, 1), (64, .goto 27, 3), (67, .iconst 0, 1), (68, .goto 23, 3), (71, .aload_n 0, 1), (72, .getfield 51, 3), (75, .iload 5, 2), (77, .iload_n 1, 1), (78, .invokevirtual 322, 3), (81, .iload 4, 2), (83, .if_icmp .le 7, 3), (86, .iconst 1, 1), (87, .goto 4, 3), (90, .iconst 0, 1), (91, .istore 6, 2), (93, .iload 6, 2)]
theorem zhdX11_isRest_46 : dzC ztdX11_isRest_46 46 (cX11_isRest.data.toList.drop 46) = true := by decide +kernel
theorem dX11_isRest_46 : decode cX11_isRest 46 = .ok (.ifCond .ne 25, 3) := dzr zhdX11_isRest_46 0 rfl
theorem dX11_isRest_49 : decode cX11_isRest 49 = .ok (.aload_n 0, 1) := dzr zhdX11_isRest_46 1 rfl
theorem dX11_isRest_50 : decode cX11_isRest 50 = .ok (.getfield 51, 3) := dzr zhdX11_isRest_46 2 rfl
theorem dX11_isRest_53 : decode cX11_isRest 53 = .ok (.iload 5, 2) := dzr zhdX11_isRest_46 3 rfl
theorem dX11_isRest_55 : decode cX11_isRest 55 = .ok (.iload_n 2, 1) := dzr zhdX11_isRest_46 4 rfl
theorem dX11_isRest_56 : decode cX11_isRest 56 = .ok (.invokevirtual 322, 3) := dzr zhdX11_isRest_46 5 rfl
theorem dX11_isRest_59 : decode cX11_isRest 59 = .ok (.iload_n 3, 1) := dzr zhdX11_isRest_46 6 rfl
theorem dX11_isRest_60 : decode cX11_isRest 60 = .ok (.if_icmp .le 7, 3) := dzr zhdX11_isRest_46 7 rfl
theorem dX11_isRest_63 : decode cX11_isRest 63 = .ok (.iconst 1, 1) := dzr zhdX11_isRest_46 8 rfl
theorem dX11_isRest_64 : decode cX11_isRest 64 = .ok (.goto 27, 3) := dzr zhdX11_isRest_46 9 rfl
theorem dX11_isRest_67 : decode cX11_isRest 67 = .ok (.iconst 0, 1) := dzr zhdX11_isRest_46 10 rfl
theorem dX11_isRest_68 : decode cX11_isRest 68 = .ok (.goto 23, 3) := dzr zhdX11_isRest_46 11 rfl
theorem dX11_isRest_71 : decode cX11_isRest 71 = .ok (.aload_n 0, 1) := dzr zhdX11_isRest_46 12 rfl
theorem dX11_isRest_72 : decode cX11_isRest 72 = .ok (.getfield 51, 3) := dzr zhdX11_isRest_46 13 rfl
theorem dX11_isRest_75 : decode cX11_isRest 75 = .ok (.iload 5, 2) := dzr zhdX11_isRest_46 14 rfl
theorem dX11_isRest_77 : decode cX11_isRest 77 = .ok (.iload_n 1, 1) := dzr zhdX11_isRest_46 15 rfl
theorem dX11_isRest_78 : decode cX11_isRest 78 = .ok (.invokevirtual 322, 3) := dzr zhdX11_isRest_46 16 rfl
theorem dX11_isRest_81 : decode cX11_isRest 81 = .ok (.iload 4, 2) := dzr zhdX11_isRest_46 17 rfl
theorem dX11_isRest_83 : decode cX11_isRest 83 = .ok (.if_icmp .le 7, 3) := dzr zhdX11_isRest_46 18 rfl
theorem dX11_isRest_86 : decode cX11_isRest 86 = .ok (.iconst 1, 1) := dzr zhdX11_isRest_46 19 rfl
theorem dX11_isRest_87 : decode cX11_isRest 87 = .ok (.goto 4, 3) := dzr zhdX11_isRest_46 20 rfl
theorem dX11_isRest_90 : decode cX11_isRest 90 = .ok (.iconst 0, 1) := dzr zhdX11_isRest_46 21 rfl
theorem dX11_isRest_91 : decode cX11_isRest 91 = .ok (.istore 6, 2) := dzr zhdX11_isRest_46 22 rfl
theorem dX11_isRest_93 : decode cX11_isRest 93 = .ok (.iload 6, 2) := dzr zhdX11_isRest_46 23 rfl
def ztdX11_isRest_95 : List (Nat × Instr × Nat) := [(95, .ifCond .eq 5, 3), (98, .iconst 0, 1), (99, .ireturn, 1), (100, .iinc 5 1, 3), (103, .goto (-79), 3), (106, .iconst 1, 1), (107, .ireturn, 1)]
theorem zhdX11_isRest_95 : dzC ztdX11_isRest_95 95 (cX11_isRest.data.toList.drop 95) = true := by decide +kernel
theorem dX11_isRest_95 : decode cX11_isRest 95 = .ok (.ifCond .eq 5, 3) := dzr zhdX11_isRest_95 0 rfl
theorem dX11_isRest_98 : decode cX11_isRest 98 = .ok (.iconst 0, 1) := dzr zhdX11_isRest_95 1 rfl
theorem dX11_isRest_99 : decode cX11_isRest 99 = .ok (.ireturn, 1) := dzr zhdX11_isRest_95 2 rfl
theorem dX11_isRest_100 : decode cX11_isRest 100 = .ok (.iinc 5 1, 3) := dzr zhdX11_isRest_95 3 rfl
theorem dX11_isRest_103 : decode cX11_isRest 103 = .ok (.goto (-79), 3) := dzr zhdX11_isRest_95 4 rfl
theorem dX11_isRest_106 : decode cX11_isRest 106 = .ok (.iconst 1, 1) := dzr zhdX11_isRest_95 5 rfl
theorem dX11_isRest_107 : decode cX11_isRest 107 = .ok (.ireturn, 1) := dzr zhdX11_isRest_95 6 rfl
def ztdX12_in_0 : List (Nat × Instr × Nat) := [(0, .iload_n 0, 1), (1, .iload_n 1, 1), (2, .if_icmp .lt 12, 3), (5, .iload_n 0, 1), (6, .iload_n 2, 1), (7, .if_icmp .gt 7, 3), (10, .iconst 1, 1), (11, .goto 4, 3), (14, .iconst 0, 1), (15, .ireturn, 1)]
theorem zhdX12_in_0 : dzC ztdX12_in_0 0 (cX12_in.data.toList.drop 0) = true := by decide +kernel
theorem dX12_in_0 : decode cX12_in 0 = .ok (.iload_n 0, 1) := dzr zhdX12_in_0 0 rfl
theorem dX12_in_1 : decode cX12_in 1 = .ok (.iload_n 1, 1) := dzr zhdX12_in_0 1 rfl
theorem dX12_in_2 : decode cX12_in 2 = .ok (.if_icmp .lt 12, 3) := dzr zhdX12_in_0 2 rfl
theorem dX12_in_5 : decode cX12_in 5 = .ok (.iload_n 0, 1) := dzr zhdX12_in_0 3 rfl
theorem dX12_in_6 : decode cX12_in 6 = .ok (.iload_n 2, 1) := dzr zhdX12_in_0 4 rfl
theorem dX12_in_7 : decode cX12_in 7 = .ok (.if_icmp .gt 7, 3) := dzr zhdX12_in_0 5 rfl
theorem dX12_in_10 : decode cX12_in 10 = .ok (.iconst 1, 1) := dzr zhdX12_in_0 6 rfl
theorem dX12_in_11 : decode cX12_in 11 = .ok (.goto 4, 3) := dzr zhdX12_in_0 7 rfl
theorem dX12_in_14 : decode cX12_in 14 = .ok (.iconst 0, 1) := dzr zhdX12_in_0 8 rfl
theorem dX12_in_15 : decode cX12_in 15 = .ok (.ireturn, 1) := dzr zhdX12_in_0 9 rfl
def ztdX12_has_0 : List (Nat × Instr × Nat) := [(0, .iload_n 0, 1), (1, .iload_n 1, 1), (2, .ishr, 1), (3, .iconst 1, 1), (4, .iand, 1), (5, .iconst 1, 1), (6, .if_icmp .ne 7, 3), (9, .iconst 1, 1), (10, .goto 4, 3), (13, .iconst 0, 1), (14, .ireturn, 1)]
theorem zhdX12_has_0 : dzC ztdX12_has_0 0 (cX12_has.data.toList.drop 0) = true := by decide +kernel
theorem dX12_has_0 : decode cX12_has 0 = .ok (.iload_n 0, 1) := dzr zhdX12_has_0 0 rfl
theorem dX12_has_1 : decode cX12_has 1 = .ok (.iload_n 1, 1) := dzr zhdX12_has_0 1 rfl
theorem dX12_has_2 : decode cX12_has 2 = .ok (.ishr, 1) := dzr zhdX12_has_0 2 rfl
theorem dX12_has_3 : decode cX12_has 3 = .ok (.iconst 1, 1) := dzr zhdX12_has_0 3 rfl
theorem dX12_has_4 : decode cX12_has 4 = .ok (.iand, 1) := dzr zhdX12_has_0 4 rfl
theorem dX12_has_5 : decode cX12_has 5 = .ok (.iconst 1, 1) := dzr zhdX12_has_0 5 rfl
theorem dX12_has_6 : decode cX12_has 6 = .ok (.if_icmp .ne 7, 3) := dzr zhdX12_has_0 6 rfl
theorem dX12_has_9 : decode cX12_has 9 = .ok (.iconst 1, 1) := dzr zhdX12_has_0 7 rfl
theorem dX12_has_10 : decode cX12_has 10 = .ok (.goto 4, 3) := dzr zhdX12_has_0 8 rfl
theorem dX12_has_13 : decode cX12_has 13 = .ok (.iconst 0, 1) := dzr zhdX12_has_0 9 rfl
theorem dX12_has_14 : decode cX12_has 14 = .ok (.ireturn, 1) := dzr zhdX12_has_0 10 rfl
theorem dX12_init_8 : decode cX12_init 8 = .ok (.newarray .int, 2) := by decide +kernel
theorem dX12_init_17 : decode cX12_init 17 = .ok (.newarray .int, 2) := by decide +kernel
theorem dX12_init_26 : decode cX12_init 26 = .ok (.newarray .int, 2) := by decide +kernel
theorem dX12_init_33 : decode cX12_init 33 = .ok (.newarray .int, 2) := by decide +kernel
theorem dX12_init_40 : decode cX12_init 40 = .ok (.newarray .int, 2) := by decide +kernel
theorem dX12_init_49 : decode cX12_init 49 = .ok (.newarray .int, 2) := by decide +kernel
theorem dX12_init_58 : decode cX12_init 58 = .ok (.newarray .int, 2) := by decide +kernel
theorem dX12_init_67 : decode cX12_init 67 = .ok (.newarray .int, 2) := by decide +kernel
theorem dX12_init_75 : decode cX12_init 75 = .ok (.newarray .int, 2) := by decide +kernel
theorem dX12_init_83 : decode cX12_init 83 = .ok (.newarray .int, 2) := by decide +kernel
theorem dX12_init_90 : decode cX12_init 90 = .ok (.newarray .int, 2) := by decide +kernel
theorem dX12_init_98 : decode cX12_init 98 = .ok (.newarray .int, 2) := by decide +kernel
theorem dX12_init_106 : decode cX12_init 106 = .ok (.newarray .int, 2) := by decide +kernel
theorem dX12_init_113 : decode cX12_init 113 = .ok (.newarray .int, 2) := by decide +kernel
theorem dX12_init_121 : decode cX12_init 121 = .ok (.newarray .int, 2) := by decide +kernel
theorem dX12_init_129 : decode cX12_init 129 = .ok (.newarray .int, 2) := by decide +kernel
theorem dX12_init_138 : decode cX12_init 138 = .ok (.newarray .int, 2) := by decide +kernel
theorem dX12_init_145 : decode cX12_init 145 = .ok (.newarray .int, 2) := by decide +kernel
theorem dX12_init_164 : decode cX12_init 164 = .ok (.newarray .int, 2) := by decide +kernel
theorem dX12_init_172 : decode cX12_init 172 = .ok (.newarray .int, 2) := by decide +kernel
theorem dX12_init_180 : decode cX12_init 180 = .ok (.newarray .int, 2) := by decide +kernel
theorem dX12_init_188 : decode cX12_init 188 = .ok (.newarray .int, 2) := by decide +kernel
theorem dX12_init_196 : decode cX12_init 196 = .ok (.newarray .int, 2) := by decide +kernel
theorem dX12_init_204 : decode cX12_init 204 = .ok (.newarray .int, 2) := by decide +kernel
theorem dX12_init_212 : decode cX12_init 212 = .ok (.newarray .boolean, 2) := by decide +kernel
theorem dX12_init_221 : decode cX12_init 221 = .ok (.newarray .int, 2) := by decide +kernel
def ztdX12_init_0 : List (Nat × Instr × Nat) := [(0, .aload_n 0, 1), (1, .invokespecial 3, 3), (4, .aload_n 0, 1), (5, .sipush 240, 3), (10, .putfield 9, 3), (13, .aload_n 0, 1), (14, .sipush 2600, 3), (19, .putfield 13, 3), (22, .aload_n 0, 1), (23, .sipush 2600, 3), (28, .putfield 16, 3), (31, .aload_n 0, 1), (32, .iconst 5, 1), (35, .putfield 19, 3), (38, .aload_n 0, 1), (39, .iconst 5, 1), (42, .putfield 22, 3), (45, .aload_n 0, 1), (46, .sipush 700, 3), (51, .putfield 25, 3), (54, .aload_n 0, 1), (55, .sipush 700, 3), (60, .putfield 28, 3), (63, .aload_n 0, 1)]
theorem zhdX12_init_0 : dzC ztdX12_init_0 0 (cX12_init.data.toList.drop 0) = true := by decide +kernel
theorem dX12_init_0 : decode cX12_init 0 = .ok (.aload_n 0, 1) := dzr zhdX12_init_0 0 rfl
theorem dX12_init_1 : decode cX12_init 1 = .ok (.invokespecial 3, 3) := dzr zhdX12_init_0 1 rfl
theorem dX12_init_4 : decode cX12_init 4 = .ok (.aload_n 0, 1) := dzr zhdX12_init_0 2 rfl
theorem dX12_init_5 : decode cX12_init 5 = .ok (.sipush 240, 3) := dzr zhdX12_init_0 3 rfl
theorem dX12_init_10 : decode cX12_init 10 = .ok (.putfield 9, 3) := dzr zhdX12_init_0 4 rfl
theorem dX12_init_13 : decode cX12_init 13 = .ok (.aload_n 0, 1) := dzr zhdX12_init_0 5 rfl
theorem dX12_init_14 : decode cX12_init 14 = .ok (.sipush 2600, 3) := dzr zhdX12_init_0 6 rfl
theorem dX12_init_19 : decode cX12_init 19 = .ok (.putfield 13, 3) := dzr zhdX12_init_0 7 rfl
theorem dX12_init_22 : decode cX12_init 22 = .ok (.aload_n 0, 1) := dzr zhdX12_init_0 8 rfl
theorem dX12_init_23 : decode cX12_init 23 = .ok (.sipush 2600, 3) := dzr zhdX12_init_0 9 rfl
theorem dX12_init_28 : decode cX12_init 28 = .ok (.putfield 16, 3) := dzr zhdX12_init_0 10 rfl
theorem dX12_init_31 : decode cX12_init 31 = .ok (.aload_n 0, 1) := dzr zhdX12_init_0 11 rfl
theorem dX12_init_32 : decode cX12_init 32 = .ok (.iconst 5, 1) := dzr zhdX12_init_0 12 rfl
theorem dX12_init_35 : decode cX12_init 35 = .ok (.putfield 19, 3) := dzr zhdX12_init_0 13 rfl
theorem dX12_init_38 : decode cX12_init 38 = .ok (.aload_n 0, 1) := dzr zhdX12_init_0 14 rfl
theorem dX12_init_39 : decode cX12_init 39 = .ok (.iconst 5, 1) := dzr zhdX12_init_0 15 rfl
theorem dX12_init_42 : decode cX12_init 42 = .ok (.putfield 22, 3) := dzr zhdX12_init_0 16 rfl
theorem dX12_init_45 : decode cX12_init 45 = .ok (.aload_n 0, 1) := dzr zhdX12_init_0 17 rfl
theorem dX12_init_46 : decode cX12_init 46 = .ok (.sipush 700, 3) := dzr zhdX12_init_0 18 rfl
theorem dX12_init_51 : decode cX12_init 51 = .ok (.putfield 25, 3) := dzr zhdX12_init_0 19 rfl
theorem dX12_init_54 : decode cX12_init 54 = .ok (.aload_n 0, 1) := dzr zhdX12_init_0 20 rfl
theorem dX12_init_55 : decode cX12_init 55 = .ok (.sipush 700, 3) := dzr zhdX12_init_0 21 rfl
theorem dX12_init_60 : decode cX12_init 60 = .ok (.putfield 28, 3) := dzr zhdX12_init_0 22 rfl
theorem dX12_init_63 : decode cX12_init 63 = .ok (.aload_n 0, 1) := dzr zhdX12_init_0 23 rfl
def ztdX12_init_64 : List (Nat × Instr × Nat) := [(64, .sipush 700, 3), (69, .putfield 31, 3), (72, .aload_n 0, 1), (73, .bipush 6, 2), (77, .putfield 34, 3), (80, .aload_n 0, 1), (81, .bipush 80, 2), (85, .putfield 37, 3), (88, .aload_n 0, 1), (89, .iconst 2, 1), (92, .putfield 40, 3), (95, .aload_n 0, 1), (96, .bipush 24, 2), (100, .putfield 43, 3), (103, .aload_n 0, 1), (104, .bipush 10, 2), (108, .putfield 46, 3), (111, .aload_n 0, 1), (112, .iconst 2, 1), (115, .putfield 49, 3), (118, .aload_n 0, 1), (119, .bipush 24, 2), (123, .putfield 52, 3), (126, .aload_n 0, 1)]
theorem zhdX12_init_64 : dzC ztdX12_init_64 64 (cX12_init.data.toList.drop 64) = true := by decide +kernel
theorem dX12_init_64 : decode cX12_init 64 = .ok (.sipush 700, 3) := dzr zhdX12_init_64 0 rfl
theorem dX12_init_69 : decode cX12_init 69 = .ok (.putfield 31, 3) := dzr zhdX12_init_64 1 rfl
theorem dX12_init_72 : decode cX12_init 72 = .ok (.aload_n 0, 1) := dzr zhdX12_init_64 2 rfl
theorem dX12_init_73 : decode cX12_init 73 = .ok (.bipush 6, 2) := dzr zhdX12_init_64 3 rfl
theorem dX12_init_77 : decode cX12_init 77 = .ok (.putfield 34, 3) := dzr zhdX12_init_64 4 rfl
theorem dX12_init_80 : decode cX12_init 80 = .ok (.aload_n 0, 1) := dzr zhdX12_init_64 5 rfl
theorem dX12_init_81 : decode cX12_init 81 = .ok (.bipush 80, 2) := dzr zhdX12_init_64 6 rfl
theorem dX12_init_85 : decode cX12_init 85 = .ok (.putfield 37, 3) := dzr zhdX12_init_64 7 rfl
theorem dX12_init_88 : decode cX12_init 88 = .ok (.aload_n 0, 1) := dzr zhdX12_init_64 8 rfl
theorem dX12_init_89 : decode cX12_init 89 = .ok (.iconst 2, 1) := dzr zhdX12_init_64 9 rfl
theorem dX12_init_92 : decode cX12_init 92 = .ok (.putfield 40, 3) := dzr zhdX12_init_64 10 rfl
theorem dX12_init_95 : decode cX12_init 95 = .ok (.aload_n 0, 1) := dzr zhdX12_init_64 11 rfl
theorem dX12_init_96 : decode cX12_init 96 = .ok (.bipush 24, 2) := dzr zhdX12_init_64 12 rfl
theorem dX12_init_100 : decode cX12_init 100 = .ok (.putfield 43, 3) := dzr zhdX12_init_64 13 rfl
theorem dX12_init_103 : decode cX12_init 103 = .ok (.aload_n 0, 1) := dzr zhdX12_init_64 14 rfl
theorem dX12_init_104 : decode cX12_init 104 = .ok (.bipush 10, 2) := dzr zhdX12_init_64 15 rfl
theorem dX12_init_108 : decode cX12_init 108 = .ok (.putfield 46, 3) := dzr zhdX12_init_64 16 rfl
theorem dX12_init_111 : decode cX12_init 111 = .ok (.aload_n 0, 1) := dzr zhdX12_init_64 17 rfl
theorem dX12_init_112 : decode cX12_init 112 = .ok (.iconst 2, 1) := dzr zhdX12_init_64 18 rfl
theorem dX12_init_115 : decode cX12_init 115 = .ok (.putfield 49, 3) := dzr zhdX12_init_64 19 rfl
theorem dX12_init_118 : decode cX12_init 118 = .ok (.aload_n 0, 1) := dzr zhdX12_init_64 20 rfl
theorem dX12_init_119 : decode cX12_init 119 = .ok (.bipush 24, 2) := dzr zhdX12_init_64 21 rfl
theorem dX12_init_123 : decode cX12_init 123 = .ok (.putfield 52, 3) := dzr zhdX12_init_64 22 rfl
theorem dX12_init_126 : decode cX12_init 126 = .ok (.aload_n 0, 1) := dzr zhdX12_init_64 23 rfl
def ztdX12_init_127 : List (Nat × Instr × Nat) := [(127, .bipush 10, 2), (131, .putfield 55, 3), (134, .aload_n 0, 1), (135, .sipush 250, 3), (140, .putfield 58, 3), (143, .aload_n 0, 1), (144, .iconst 5, 1), (147, .putfield 61, 3), (150, .aload_n 0, 1), (151, .iconst (-1), 1), (152, .putfield 64, 3), (155, .aload_n 0, 1), (156, .iconst 1, 1), (157, .putfield 68, 3), (160, .aload_n 0, 1), (161, .sipush 10000, 3), (166, .putfield 71, 3), (169, .aload_n 0, 1), (170, .bipush 6, 2), (174, .putfield 74, 3), (177, .aload_n 0, 1), (178, .bipush 69, 2), (182, .putfield 77, 3), (185, .aload_n 0, 1)]
theorem zhdX12_init_127 : dzC ztdX12_init_127 127 (cX12_init.data.toList.drop 127) = true := by decide +kernel
theorem dX12_init_127 : decode cX12_init 127 = .ok (.bipush 10, 2) := dzr zhdX12_init_127 0 rfl
theorem dX12_init_131 : decode cX12_init 131 = .ok (.putfield 55, 3) := dzr zhdX12_init_127 1 rfl
theorem dX12_init_134 : decode cX12_init 134 = .ok (.aload_n 0, 1) := dzr zhdX12_init_127 2 rfl
theorem dX12_init_135 : decode cX12_init 135 = .ok (.sipush 250, 3) := dzr zhdX12_init_127 3 rfl
theorem dX12_init_140 : decode cX12_init 140 = .ok (.putfield 58, 3) := dzr zhdX12_init_127 4 rfl
theorem dX12_init_143 : decode cX12_init 143 = .ok (.aload_n 0, 1) := dzr zhdX12_init_127 5 rfl
theorem dX12_init_144 : decode cX12_init 144 = .ok (.iconst 5, 1) := dzr zhdX12_init_127 6 rfl
theorem dX12_init_147 : decode cX12_init 147 = .ok (.putfield 61, 3) := dzr zhdX12_init_127 7 rfl
theorem dX12_init_150 : decode cX12_init 150 = .ok (.aload_n 0, 1) := dzr zhdX12_init_127 8 rfl
theorem dX12_init_151 : decode cX12_init 151 = .ok (.iconst (-1), 1) := dzr zhdX12_init_127 9 rfl
theorem dX12_init_152 : decode cX12_init 152 = .ok (.putfield 64, 3) := dzr zhdX12_init_127 10 rfl
theorem dX12_init_155 : decode cX12_init 155 = .ok (.aload_n 0, 1) := dzr zhdX12_init_127 11 rfl
theorem dX12_init_156 : decode cX12_init 156 = .ok (.iconst 1, 1) := dzr zhdX12_init_127 12 rfl
theorem dX12_init_157 : decode cX12_init 157 = .ok (.putfield 68, 3) := dzr zhdX12_init_127 13 rfl
theorem dX12_init_160 : decode cX12_init 160 = .ok (.aload_n 0, 1) := dzr zhdX12_init_127 14 rfl
theorem dX12_init_161 : decode cX12_init 161 = .ok (.sipush 10000, 3) := dzr zhdX12_init_127 15 rfl
theorem dX12_init_166 : decode cX12_init 166 = .ok (.putfield 71, 3) := dzr zhdX12_init_127 16 rfl
theorem dX12_init_169 : decode cX12_init 169 = .ok (.aload_n 0, 1) := dzr zhdX12_init_127 17 rfl
theorem dX12_init_170 : decode cX12_init 170 = .ok (.bipush 6, 2) := dzr zhdX12_init_127 18 rfl
theorem dX12_init_174 : decode cX12_init 174 = .ok (.putfield 74, 3) := dzr zhdX12_init_127 19 rfl
theorem dX12_init_177 : decode cX12_init 177 = .ok (.aload_n 0, 1) := dzr zhdX12_init_127 20 rfl
theorem dX12_init_178 : decode cX12_init 178 = .ok (.bipush 69, 2) := dzr zhdX12_init_127 21 rfl
theorem dX12_init_182 : decode cX12_init 182 = .ok (.putfield 77, 3) := dzr zhdX12_init_127 22 rfl
theorem dX12_init_185 : decode cX12_init 185 = .ok (.aload_n 0, 1) := dzr zhdX12_init_127 23 rfl
def ztdX12_init_186 : List (Nat × Instr × Nat) := [(186, .bipush 10, 2), (190, .putfield 80, 3), (193, .aload_n 0, 1), (194, .bipush 10, 2), (198, .putfield 83, 3), (201, .aload_n 0, 1), (202, .bipush 10, 2), (206, .putfield 86, 3), (209, .aload_n 0, 1), (210, .bipush 10, 2), (214, .putfield 89, 3), (217, .aload_n 0, 1), (218, .sipush 250, 3), (223, .putfield 93, 3), (226, .return_, 1)]
theorem zhdX12_init_186 : dzC ztdX12_init_186 186 (cX12_init.data.toList.drop 186) = true := by decide +kernel
theorem dX12_init_186 : decode cX12_init 186 = .ok (.bipush 10, 2) := dzr zhdX12_init_186 0 rfl
theorem dX12_init_190 : decode cX12_init 190 = .ok (.putfield 80, 3) := dzr zhdX12_init_186 1 rfl
theorem dX12_init_193 : decode cX12_init 193 = .ok (.aload_n 0, 1) := dzr zhdX12_init_186 2 rfl
theorem dX12_init_194 : decode cX12_init 194 = .ok (.bipush 10, 2) := dzr zhdX12_init_186 3 rfl
theorem dX12_init_198 : decode cX12_init 198 = .ok (.putfield 83, 3) := dzr zhdX12_init_186 4 rfl
theorem dX12_init_201 : decode cX12_init 201 = .ok (.aload_n 0, 1) := dzr zhdX12_init_186 5 rfl
theorem dX12_init_202 : decode cX12_init 202 = .ok (.bipush 10, 2) := dzr zhdX12_init_186 6 rfl
theorem dX12_init_206 : decode cX12_init 206 = .ok (.putfield 86, 3) := dzr zhdX12_init_186 7 rfl
theorem dX12_init_209 : decode cX12_init 209 = .ok (.aload_n 0, 1) := dzr zhdX12_init_186 8 rfl
theorem dX12_init_210 : decode cX12_init 210 = .ok (.bipush 10, 2) := dzr zhdX12_init_186 9 rfl
theorem dX12_init_214 : decode cX12_init 214 = .ok (.putfield 89, 3) := dzr zhdX12_init_186 10 rfl
theorem dX12_init_217 : decode cX12_init 217 = .ok (.aload_n 0, 1) := dzr zhdX12_init_186 11 rfl
theorem dX12_init_218 : decode cX12_init 218 = .ok (.sipush 250, 3) := dzr zhdX12_init_186 12 rfl
theorem dX12_init_223 : decode cX12_init 223 = .ok (.putfield 93, 3) := dzr zhdX12_init_186 13 rfl
theorem dX12_init_226 : decode cX12_init 226 = .ok (.return_, 1) := dzr zhdX12_init_186 14 rfl
def ztdX12_byteOf_0 : List (Nat × Instr × Nat) := [(0, .iload 5, 2), (2, .iconst 4, 1), (3, .if_icmp .ge 7, 3), (6, .iload_n 0, 1), (7, .goto 38, 3), (10, .iload 5, 2), (12, .bipush 8, 2), (14, .if_icmp .ge 7, 3), (17, .iload_n 1, 1), (18, .goto 27, 3), (21, .iload 5, 2), (23, .bipush 12, 2), (25, .if_icmp .ge 7, 3), (28, .iload_n 2, 1), (29, .goto 16, 3), (32, .iload 5, 2), (34, .bipush 16, 2), (36, .if_icmp .ge 7, 3), (39, .iload_n 3, 1), (40, .goto 5, 3), (43, .iload 4, 2), (45, .istore 6, 2), (47, .iload 6, 2), (49, .bipush 24, 2)]
theorem zhdX12_byteOf_0 : dzC ztdX12_byteOf_0 0 (cX12_byteOf.data.toList.drop 0) = true := by decide +kernel
theorem dX12_byteOf_0 : decode cX12_byteOf 0 = .ok (.iload 5, 2) := dzr zhdX12_byteOf_0 0 rfl
theorem dX12_byteOf_2 : decode cX12_byteOf 2 = .ok (.iconst 4, 1) := dzr zhdX12_byteOf_0 1 rfl
theorem dX12_byteOf_3 : decode cX12_byteOf 3 = .ok (.if_icmp .ge 7, 3) := dzr zhdX12_byteOf_0 2 rfl
theorem dX12_byteOf_6 : decode cX12_byteOf 6 = .ok (.iload_n 0, 1) := dzr zhdX12_byteOf_0 3 rfl
theorem dX12_byteOf_7 : decode cX12_byteOf 7 = .ok (.goto 38, 3) := dzr zhdX12_byteOf_0 4 rfl
theorem dX12_byteOf_10 : decode cX12_byteOf 10 = .ok (.iload 5, 2) := dzr zhdX12_byteOf_0 5 rfl
theorem dX12_byteOf_12 : decode cX12_byteOf 12 = .ok (.bipush 8, 2) := dzr zhdX12_byteOf_0 6 rfl
theorem dX12_byteOf_14 : decode cX12_byteOf 14 = .ok (.if_icmp .ge 7, 3) := dzr zhdX12_byteOf_0 7 rfl
theorem dX12_byteOf_17 : decode cX12_byteOf 17 = .ok (.iload_n 1, 1) := dzr zhdX12_byteOf_0 8 rfl
theorem dX12_byteOf_18 : decode cX12_byteOf 18 = .ok (.goto 27, 3) := dzr zhdX12_byteOf_0 9 rfl
theorem dX12_byteOf_21 : decode cX12_byteOf 21 = .ok (.iload 5, 2) := dzr zhdX12_byteOf_0 10 rfl
theorem dX12_byteOf_23 : decode cX12_byteOf 23 = .ok (.bipush 12, 2) := dzr zhdX12_byteOf_0 11 rfl
theorem dX12_byteOf_25 : decode cX12_byteOf 25 = .ok (.if_icmp .ge 7, 3) := dzr zhdX12_byteOf_0 12 rfl
theorem dX12_byteOf_28 : decode cX12_byteOf 28 = .ok (.iload_n 2, 1) := dzr zhdX12_byteOf_0 13 rfl
theorem dX12_byteOf_29 : decode cX12_byteOf 29 = .ok (.goto 16, 3) := dzr zhdX12_byteOf_0 14 rfl
theorem dX12_byteOf_32 : decode cX12_byteOf 32 = .ok (.iload 5, 2) := dzr zhdX12_byteOf_0 15 rfl
theorem dX12_byteOf_34 : decode cX12_byteOf 34 = .ok (.bipush 16, 2) := dzr zhdX12_byteOf_0 16 rfl
theorem dX12_byteOf_36 : decode cX12_byteOf 36 = .ok (.if_icmp .ge 7, 3) := dzr zhdX12_byteOf_0 17 rfl
theorem dX12_byteOf_39 : decode cX12_byteOf 39 = .ok (.iload_n 3, 1) := dzr zhdX12_byteOf_0 18 rfl
theorem dX12_byteOf_40 : decode cX12_byteOf 40 = .ok (.goto 5, 3) := dzr zhdX12_byteOf_0 19 rfl
theorem dX12_byteOf_43 : decode cX12_byteOf 43 = .ok (.iload 4, 2) := dzr zhdX12_byteOf_0 20 rfl
theorem dX12_byteOf_45 : decode cX12_byteOf 45 = .ok (.istore 6, 2) := dzr zhdX12_byteOf_0 21 rfl
theorem dX12_byteOf_47 : decode cX12_byteOf 47 = .ok (.iload 6, 2) := dzr zhdX12_byteOf_0 22 rfl
theorem dX12_byteOf_49 : decode cX12_byteOf 49 = .ok (.bipush 24, 2) := dzr zhdX12_byteOf_0 23 rfl
def ztdX12_byteOf_51 : List (Nat × Instr × Nat) := [(51, .bipush 8, 2), (53, .iload 5, 2), (55, .iconst 4, 1), (56, .irem, 1), (57, .imul, 1), (58, .isub, 1), (59, .ishr, 1), (60, .sipush 255, 3), (63, .iand, 1), (64, .ireturn, 1)]
theorem zhdX12_byteOf_51 : dzC ztdX12_byteOf_51 51 (cX12_byteOf.data.toList.drop 51) = true := by decide +kernel
theorem dX12_byteOf_51 : decode cX12_byteOf 51 = .ok (.bipush 8, 2) := dzr zhdX12_byteOf_51 0 rfl
theorem dX12_byteOf_53 : decode cX12_byteOf 53 = .ok (.iload 5, 2) := dzr zhdX12_byteOf_51 1 rfl
theorem dX12_byteOf_55 : decode cX12_byteOf 55 = .ok (.iconst 4, 1) := dzr zhdX12_byteOf_51 2 rfl
theorem dX12_byteOf_56 : decode cX12_byteOf 56 = .ok (.irem, 1) := dzr zhdX12_byteOf_51 3 rfl
theorem dX12_byteOf_57 : decode cX12_byteOf 57 = .ok (.imul, 1) := dzr zhdX12_byteOf_51 4 rfl
theorem dX12_byteOf_58 : decode cX12_byteOf 58 = .ok (.isub, 1) := dzr zhdX12_byteOf_51 5 rfl
theorem dX12_byteOf_59 : decode cX12_byteOf 59 = .ok (.ishr, 1) := dzr zhdX12_byteOf_51 6 rfl
theorem dX12_byteOf_60 : decode cX12_byteOf 60 = .ok (.sipush 255, 3) := dzr zhdX12_byteOf_51 7 rfl
theorem dX12_byteOf_63 : decode cX12_byteOf 63 = .ok (.iand, 1) := dzr zhdX12_byteOf_51 8 rfl
theorem dX12_byteOf_64 : decode cX12_byteOf 64 = .ok (.ireturn, 1) := dzr zhdX12_byteOf_51 9 rfl
theorem ggX12_feed_X12_byteOf : GoodIn wsX12_feed wsX12_byteOf := (bg_up (bg_law (bi_wsL_law0_r8 _ (List.mem_of_getElem? (i := 23) rfl))))
theorem gX12_feed_X12_byteOf : GoodIn wsX12_feed (va_wsS RX12 99 yX12_byteOf wsX12_byteOf) := goodIn_app (bg_up (bg_cons (bi_wsL_law0_r8 _ (List.mem_of_getElem? (i := 21) rfl)) (bg_cons (bi_wsL_law0_r8 _ (List.mem_of_getElem? (i := 22) rfl)) (bg_cons (bi_wsL_law0_r1 _ (List.mem_of_getElem? (i := 5) rfl)) bg_nil)))) (bg_up (bg_law (bi_wsL_law0_r8 _ (List.mem_of_getElem? (i := 23) rfl))))
def ztdX12_feed_0 : List (Nat × Instr × Nat) := [(0, .iconst 0, 1), (1, .istore 6, 2), (3, .iconst 0, 1), (4, .istore 7, 2), (6, .iload 7, 2), (8, .bipush 20, 2), (10, .if_icmp .ge 34, 3), (13, .iload 6, 2), (15, .iload_n 1, 1), (16, .iload_n 2, 1), (17, .iload_n 3, 1), (18, .iload 4, 2), (20, .iload 5, 2), (22, .iload 7, 2), (24, .invokestatic 99, 3), (27, .ifCond .eq 7, 3), (30, .iconst 1, 1), (31, .goto 4, 3), (34, .iconst 0, 1), (35, .iadd, 1), (36, .istore 6, 2), (38, .iinc 7 1, 3), (41, .goto (-35), 3), (44, .aload_n 0, 1)]
theorem zhdX12_feed_0 : dzC ztdX12_feed_0 0 (cX12_feed.data.toList.drop 0) = true := by decide +kernel
theorem dX12_feed_0 : decode cX12_feed 0 = .ok (.iconst 0, 1) := dzr zhdX12_feed_0 0 rfl
theorem dX12_feed_1 : decode cX12_feed 1 = .ok (.istore 6, 2) := dzr zhdX12_feed_0 1 rfl
theorem dX12_feed_3 : decode cX12_feed 3 = .ok (.iconst 0, 1) := dzr zhdX12_feed_0 2 rfl
theorem dX12_feed_4 : decode cX12_feed 4 = .ok (.istore 7, 2) := dzr zhdX12_feed_0 3 rfl
theorem dX12_feed_6 : decode cX12_feed 6 = .ok (.iload 7, 2) := dzr zhdX12_feed_0 4 rfl
theorem dX12_feed_8 : decode cX12_feed 8 = .ok (.bipush 20, 2) := dzr zhdX12_feed_0 5 rfl
theorem dX12_feed_10 : decode cX12_feed 10 = .ok (.if_icmp .ge 34, 3) := dzr zhdX12_feed_0 6 rfl
theorem dX12_feed_13 : decode cX12_feed 13 = .ok (.iload 6, 2) := dzr zhdX12_feed_0 7 rfl
theorem dX12_feed_15 : decode cX12_feed 15 = .ok (.iload_n 1, 1) := dzr zhdX12_feed_0 8 rfl
theorem dX12_feed_16 : decode cX12_feed 16 = .ok (.iload_n 2, 1) := dzr zhdX12_feed_0 9 rfl
theorem dX12_feed_17 : decode cX12_feed 17 = .ok (.iload_n 3, 1) := dzr zhdX12_feed_0 10 rfl
theorem dX12_feed_18 : decode cX12_feed 18 = .ok (.iload 4, 2) := dzr zhdX12_feed_0 11 rfl
theorem dX12_feed_20 : decode cX12_feed 20 = .ok (.iload 5, 2) := dzr zhdX12_feed_0 12 rfl
theorem dX12_feed_22 : decode cX12_feed 22 = .ok (.iload 7, 2) := dzr zhdX12_feed_0 13 rfl
theorem dX12_feed_24 : decode cX12_feed 24 = .ok (.invokestatic 99, 3) := dzr zhdX12_feed_0 14 rfl
theorem dX12_feed_27 : decode cX12_feed 27 = .ok (.ifCond .eq 7, 3) := dzr zhdX12_feed_0 15 rfl
theorem dX12_feed_30 : decode cX12_feed 30 = .ok (.iconst 1, 1) := dzr zhdX12_feed_0 16 rfl
theorem dX12_feed_31 : decode cX12_feed 31 = .ok (.goto 4, 3) := dzr zhdX12_feed_0 17 rfl
theorem dX12_feed_34 : decode cX12_feed 34 = .ok (.iconst 0, 1) := dzr zhdX12_feed_0 18 rfl
theorem dX12_feed_35 : decode cX12_feed 35 = .ok (.iadd, 1) := dzr zhdX12_feed_0 19 rfl
theorem dX12_feed_36 : decode cX12_feed 36 = .ok (.istore 6, 2) := dzr zhdX12_feed_0 20 rfl
theorem dX12_feed_38 : decode cX12_feed 38 = .ok (.iinc 7 1, 3) := dzr zhdX12_feed_0 21 rfl
theorem dX12_feed_41 : decode cX12_feed 41 = .ok (.goto (-35), 3) := dzr zhdX12_feed_0 22 rfl
theorem dX12_feed_44 : decode cX12_feed 44 = .ok (.aload_n 0, 1) := dzr zhdX12_feed_0 23 rfl
def ztdX12_feed_45 : List (Nat × Instr × Nat) := [(45, .getfield 103, 3), (48, .iload 6, 2), (50, .iadd, 1), (51, .sipush 240, 3), (54, .if_icmp .le 5, 3), (57, .iconst (-1), 1), (58, .ireturn, 1), (59, .iconst 0, 1), (60, .istore 7, 2), (62, .iload 7, 2), (64, .bipush 20, 2), (66, .if_icmp .ge 49, 3), (69, .iload_n 1, 1), (70, .iload_n 2, 1), (71, .iload_n 3, 1), (72, .iload 4, 2), (74, .iload 5, 2), (76, .iload 7, 2), (78, .invokestatic 99, 3), (81, .istore 8, 2), (83, .iload 8, 2), (85, .ifCond .eq 24, 3), (88, .aload_n 0, 1), (89, .getfield 9, 3)]
theorem zhdX12_feed_45 : dzC ztdX12_feed_45 45 (cX12_feed.data.toList.drop 45) = true := by decide +kernel
theorem dX12_feed_45 : decode cX12_feed 45 = .ok (.getfield 103, 3) := dzr zhdX12_feed_45 0 rfl
theorem dX12_feed_48 : decode cX12_feed 48 = .ok (.iload 6, 2) := dzr zhdX12_feed_45 1 rfl
theorem dX12_feed_50 : decode cX12_feed 50 = .ok (.iadd, 1) := dzr zhdX12_feed_45 2 rfl
theorem dX12_feed_51 : decode cX12_feed 51 = .ok (.sipush 240, 3) := dzr zhdX12_feed_45 3 rfl
theorem dX12_feed_54 : decode cX12_feed 54 = .ok (.if_icmp .le 5, 3) := dzr zhdX12_feed_45 4 rfl
theorem dX12_feed_57 : decode cX12_feed 57 = .ok (.iconst (-1), 1) := dzr zhdX12_feed_45 5 rfl
theorem dX12_feed_58 : decode cX12_feed 58 = .ok (.ireturn, 1) := dzr zhdX12_feed_45 6 rfl
theorem dX12_feed_59 : decode cX12_feed 59 = .ok (.iconst 0, 1) := dzr zhdX12_feed_45 7 rfl
theorem dX12_feed_60 : decode cX12_feed 60 = .ok (.istore 7, 2) := dzr zhdX12_feed_45 8 rfl
theorem dX12_feed_62 : decode cX12_feed 62 = .ok (.iload 7, 2) := dzr zhdX12_feed_45 9 rfl
theorem dX12_feed_64 : decode cX12_feed 64 = .ok (.bipush 20, 2) := dzr zhdX12_feed_45 10 rfl
theorem dX12_feed_66 : decode cX12_feed 66 = .ok (.if_icmp .ge 49, 3) := dzr zhdX12_feed_45 11 rfl
theorem dX12_feed_69 : decode cX12_feed 69 = .ok (.iload_n 1, 1) := dzr zhdX12_feed_45 12 rfl
theorem dX12_feed_70 : decode cX12_feed 70 = .ok (.iload_n 2, 1) := dzr zhdX12_feed_45 13 rfl
theorem dX12_feed_71 : decode cX12_feed 71 = .ok (.iload_n 3, 1) := dzr zhdX12_feed_45 14 rfl
theorem dX12_feed_72 : decode cX12_feed 72 = .ok (.iload 4, 2) := dzr zhdX12_feed_45 15 rfl
theorem dX12_feed_74 : decode cX12_feed 74 = .ok (.iload 5, 2) := dzr zhdX12_feed_45 16 rfl
theorem dX12_feed_76 : decode cX12_feed 76 = .ok (.iload 7, 2) := dzr zhdX12_feed_45 17 rfl
theorem dX12_feed_78 : decode cX12_feed 78 = .ok (.invokestatic 99, 3) := dzr zhdX12_feed_45 18 rfl
theorem dX12_feed_81 : decode cX12_feed 81 = .ok (.istore 8, 2) := dzr zhdX12_feed_45 19 rfl
theorem dX12_feed_83 : decode cX12_feed 83 = .ok (.iload 8, 2) := dzr zhdX12_feed_45 20 rfl
theorem dX12_feed_85 : decode cX12_feed 85 = .ok (.ifCond .eq 24, 3) := dzr zhdX12_feed_45 21 rfl
theorem dX12_feed_88 : decode cX12_feed 88 = .ok (.aload_n 0, 1) := dzr zhdX12_feed_45 22 rfl
theorem dX12_feed_89 : decode cX12_feed 89 = .ok (.getfield 9, 3) := dzr zhdX12_feed_45 23 rfl
def ztdX12_feed_92 : List (Nat × Instr × Nat) := [(92, .aload_n 0, 1), (93, .getfield 103, 3), (96, .iload 8, 2), (98, .iastore, 1), (99, .aload_n 0, 1), (100, .dup, 1), (101, .getfield 103, 3), (104, .iconst 1, 1), (105, .iadd, 1), (106, .putfield 103, 3), (109, .iinc 7 1, 3), (112, .goto (-50), 3), (115, .aload_n 0, 1), (116, .getfield 103, 3), (119, .ireturn, 1)]
theorem zhdX12_feed_92 : dzC ztdX12_feed_92 92 (cX12_feed.data.toList.drop 92) = true := by decide +kernel
theorem dX12_feed_92 : decode cX12_feed 92 = .ok (.aload_n 0, 1) := dzr zhdX12_feed_92 0 rfl
theorem dX12_feed_93 : decode cX12_feed 93 = .ok (.getfield 103, 3) := dzr zhdX12_feed_92 1 rfl
theorem dX12_feed_96 : decode cX12_feed 96 = .ok (.iload 8, 2) := dzr zhdX12_feed_92 2 rfl
theorem dX12_feed_98 : decode cX12_feed 98 = .ok (.iastore, 1) := dzr zhdX12_feed_92 3 rfl
theorem dX12_feed_99 : decode cX12_feed 99 = .ok (.aload_n 0, 1) := dzr zhdX12_feed_92 4 rfl
theorem dX12_feed_100 : decode cX12_feed 100 = .ok (.dup, 1) := dzr zhdX12_feed_92 5 rfl
theorem dX12_feed_101 : decode cX12_feed 101 = .ok (.getfield 103, 3) := dzr zhdX12_feed_92 6 rfl
theorem dX12_feed_104 : decode cX12_feed 104 = .ok (.iconst 1, 1) := dzr zhdX12_feed_92 7 rfl
theorem dX12_feed_105 : decode cX12_feed 105 = .ok (.iadd, 1) := dzr zhdX12_feed_92 8 rfl
theorem dX12_feed_106 : decode cX12_feed 106 = .ok (.putfield 103, 3) := dzr zhdX12_feed_92 9 rfl
theorem dX12_feed_109 : decode cX12_feed 109 = .ok (.iinc 7 1, 3) := dzr zhdX12_feed_92 10 rfl
theorem dX12_feed_112 : decode cX12_feed 112 = .ok (.goto (-50), 3) := dzr zhdX12_feed_92 11 rfl
theorem dX12_feed_115 : decode cX12_feed 115 = .ok (.aload_n 0, 1) := dzr zhdX12_feed_92 12 rfl
theorem dX12_feed_116 : decode cX12_feed 116 = .ok (.getfield 103, 3) := dzr zhdX12_feed_92 13 rfl
theorem dX12_feed_119 : decode cX12_feed 119 = .ok (.ireturn, 1) := dzr zhdX12_feed_92 14 rfl
def ztdX12_end_0 : List (Nat × Instr × Nat) := [(0, .iload_n 1, 1), (1, .ifCond .lt 11, 3), (4, .iload_n 1, 1), (5, .aload_n 0, 1), (6, .getfield 103, 3), (9, .if_icmp .le 5, 3), (12, .iconst 0, 1), (13, .ireturn, 1), (14, .aload_n 0, 1), (15, .iload_n 1, 1), (16, .putfield 103, 3), (19, .iconst 1, 1), (20, .ireturn, 1)]
theorem zhdX12_end_0 : dzC ztdX12_end_0 0 (cX12_end.data.toList.drop 0) = true := by decide +kernel
theorem dX12_end_0 : decode cX12_end 0 = .ok (.iload_n 1, 1) := dzr zhdX12_end_0 0 rfl
theorem dX12_end_1 : decode cX12_end 1 = .ok (.ifCond .lt 11, 3) := dzr zhdX12_end_0 1 rfl
theorem dX12_end_4 : decode cX12_end 4 = .ok (.iload_n 1, 1) := dzr zhdX12_end_0 2 rfl
theorem dX12_end_5 : decode cX12_end 5 = .ok (.aload_n 0, 1) := dzr zhdX12_end_0 3 rfl
theorem dX12_end_6 : decode cX12_end 6 = .ok (.getfield 103, 3) := dzr zhdX12_end_0 4 rfl
theorem dX12_end_9 : decode cX12_end 9 = .ok (.if_icmp .le 5, 3) := dzr zhdX12_end_0 5 rfl
theorem dX12_end_12 : decode cX12_end 12 = .ok (.iconst 0, 1) := dzr zhdX12_end_0 6 rfl
theorem dX12_end_13 : decode cX12_end 13 = .ok (.ireturn, 1) := dzr zhdX12_end_0 7 rfl
theorem dX12_end_14 : decode cX12_end 14 = .ok (.aload_n 0, 1) := dzr zhdX12_end_0 8 rfl
theorem dX12_end_15 : decode cX12_end 15 = .ok (.iload_n 1, 1) := dzr zhdX12_end_0 9 rfl
theorem dX12_end_16 : decode cX12_end 16 = .ok (.putfield 103, 3) := dzr zhdX12_end_0 10 rfl
theorem dX12_end_19 : decode cX12_end 19 = .ok (.iconst 1, 1) := dzr zhdX12_end_0 11 rfl
theorem dX12_end_20 : decode cX12_end 20 = .ok (.ireturn, 1) := dzr zhdX12_end_0 12 rfl
def ztdX12_here_0 : List (Nat × Instr × Nat) := [(0, .aload_n 0, 1), (1, .getfield 106, 3), (4, .aload_n 0, 1), (5, .getfield 103, 3), (8, .if_icmp .ge 15, 3), (11, .aload_n 0, 1), (12, .getfield 9, 3), (15, .aload_n 0, 1), (16, .getfield 106, 3), (19, .iaload, 1), (20, .goto 4, 3), (23, .iconst (-1), 1), (24, .ireturn, 1)]
theorem zhdX12_here_0 : dzC ztdX12_here_0 0 (cX12_here.data.toList.drop 0) = true := by decide +kernel
theorem dX12_here_0 : decode cX12_here 0 = .ok (.aload_n 0, 1) := dzr zhdX12_here_0 0 rfl
theorem dX12_here_1 : decode cX12_here 1 = .ok (.getfield 106, 3) := dzr zhdX12_here_0 1 rfl
theorem dX12_here_4 : decode cX12_here 4 = .ok (.aload_n 0, 1) := dzr zhdX12_here_0 2 rfl
theorem dX12_here_5 : decode cX12_here 5 = .ok (.getfield 103, 3) := dzr zhdX12_here_0 3 rfl
theorem dX12_here_8 : decode cX12_here 8 = .ok (.if_icmp .ge 15, 3) := dzr zhdX12_here_0 4 rfl
theorem dX12_here_11 : decode cX12_here 11 = .ok (.aload_n 0, 1) := dzr zhdX12_here_0 5 rfl
theorem dX12_here_12 : decode cX12_here 12 = .ok (.getfield 9, 3) := dzr zhdX12_here_0 6 rfl
theorem dX12_here_15 : decode cX12_here 15 = .ok (.aload_n 0, 1) := dzr zhdX12_here_0 7 rfl
theorem dX12_here_16 : decode cX12_here 16 = .ok (.getfield 106, 3) := dzr zhdX12_here_0 8 rfl
theorem dX12_here_19 : decode cX12_here 19 = .ok (.iaload, 1) := dzr zhdX12_here_0 9 rfl
theorem dX12_here_20 : decode cX12_here 20 = .ok (.goto 4, 3) := dzr zhdX12_here_0 10 rfl
theorem dX12_here_23 : decode cX12_here 23 = .ok (.iconst (-1), 1) := dzr zhdX12_here_0 11 rfl
theorem dX12_here_24 : decode cX12_here 24 = .ok (.ireturn, 1) := dzr zhdX12_here_0 12 rfl
theorem ggX12_look_X12_here : GoodIn wsX12_look wsX12_here := (bg_up (bg_law (bi_wsL_law0_r15 _ (List.mem_of_getElem? (i := 18) rfl))))
theorem gX12_look_X12_here : GoodIn wsX12_look (wsV RX12 109 RX12 yX12_here wsX12_here) := goodIn_app (bg_up (bg_cons (bi_wsL_law0_r15 _ (List.mem_of_getElem? (i := 15) rfl)) (bg_cons (bi_wsL_law0_r15 _ (List.mem_of_getElem? (i := 16) rfl)) (bg_cons (bi_wsL_law0_r15 _ (List.mem_of_getElem? (i := 17) rfl)) (bg_cons (bi_wsL_law0_r1 _ (List.mem_of_getElem? (i := 5) rfl)) bg_nil))))) (bg_up (bg_law (bi_wsL_law0_r15 _ (List.mem_of_getElem? (i := 18) rfl))))
def ztdX12_look_0 : List (Nat × Instr × Nat) := [(0, .aload_n 0, 1), (1, .invokevirtual 109, 3), (4, .bipush 32, 2), (6, .if_icmp .ne 16, 3), (9, .aload_n 0, 1), (10, .dup, 1), (11, .getfield 106, 3), (14, .iconst 1, 1), (15, .iadd, 1), (16, .putfield 106, 3), (19, .goto (-19), 3), (22, .aload_n 0, 1), (23, .invokevirtual 109, 3), (26, .ireturn, 1)]
theorem zhdX12_look_0 : dzC ztdX12_look_0 0 (cX12_look.data.toList.drop 0) = true := by decide +kernel
theorem dX12_look_0 : decode cX12_look 0 = .ok (.aload_n 0, 1) := dzr zhdX12_look_0 0 rfl
theorem dX12_look_1 : decode cX12_look 1 = .ok (.invokevirtual 109, 3) := dzr zhdX12_look_0 1 rfl
theorem dX12_look_4 : decode cX12_look 4 = .ok (.bipush 32, 2) := dzr zhdX12_look_0 2 rfl
theorem dX12_look_6 : decode cX12_look 6 = .ok (.if_icmp .ne 16, 3) := dzr zhdX12_look_0 3 rfl
theorem dX12_look_9 : decode cX12_look 9 = .ok (.aload_n 0, 1) := dzr zhdX12_look_0 4 rfl
theorem dX12_look_10 : decode cX12_look 10 = .ok (.dup, 1) := dzr zhdX12_look_0 5 rfl
theorem dX12_look_11 : decode cX12_look 11 = .ok (.getfield 106, 3) := dzr zhdX12_look_0 6 rfl
theorem dX12_look_14 : decode cX12_look 14 = .ok (.iconst 1, 1) := dzr zhdX12_look_0 7 rfl
theorem dX12_look_15 : decode cX12_look 15 = .ok (.iadd, 1) := dzr zhdX12_look_0 8 rfl
theorem dX12_look_16 : decode cX12_look 16 = .ok (.putfield 106, 3) := dzr zhdX12_look_0 9 rfl
theorem dX12_look_19 : decode cX12_look 19 = .ok (.goto (-19), 3) := dzr zhdX12_look_0 10 rfl
theorem dX12_look_22 : decode cX12_look 22 = .ok (.aload_n 0, 1) := dzr zhdX12_look_0 11 rfl
theorem dX12_look_23 : decode cX12_look 23 = .ok (.invokevirtual 109, 3) := dzr zhdX12_look_0 12 rfl
theorem dX12_look_26 : decode cX12_look 26 = .ok (.ireturn, 1) := dzr zhdX12_look_0 13 rfl
def ztdX12_bad_0 : List (Nat × Instr × Nat) := [(0, .aload_n 0, 1), (1, .aload_n 0, 1), (2, .getfield 113, 3), (5, .iconst (-1), 1), (6, .if_icmp .ne 10, 3), (9, .aload_n 0, 1), (10, .getfield 106, 3), (13, .goto 7, 3), (16, .aload_n 0, 1), (17, .getfield 113, 3), (20, .putfield 113, 3), (23, .return_, 1)]
theorem zhdX12_bad_0 : dzC ztdX12_bad_0 0 (cX12_bad.data.toList.drop 0) = true := by decide +kernel
theorem dX12_bad_0 : decode cX12_bad 0 = .ok (.aload_n 0, 1) := dzr zhdX12_bad_0 0 rfl
theorem dX12_bad_1 : decode cX12_bad 1 = .ok (.aload_n 0, 1) := dzr zhdX12_bad_0 1 rfl
theorem dX12_bad_2 : decode cX12_bad 2 = .ok (.getfield 113, 3) := dzr zhdX12_bad_0 2 rfl
theorem dX12_bad_5 : decode cX12_bad 5 = .ok (.iconst (-1), 1) := dzr zhdX12_bad_0 3 rfl
theorem dX12_bad_6 : decode cX12_bad 6 = .ok (.if_icmp .ne 10, 3) := dzr zhdX12_bad_0 4 rfl
theorem dX12_bad_9 : decode cX12_bad 9 = .ok (.aload_n 0, 1) := dzr zhdX12_bad_0 5 rfl
theorem dX12_bad_10 : decode cX12_bad 10 = .ok (.getfield 106, 3) := dzr zhdX12_bad_0 6 rfl
theorem dX12_bad_13 : decode cX12_bad 13 = .ok (.goto 7, 3) := dzr zhdX12_bad_0 7 rfl
theorem dX12_bad_16 : decode cX12_bad 16 = .ok (.aload_n 0, 1) := dzr zhdX12_bad_0 8 rfl
theorem dX12_bad_17 : decode cX12_bad 17 = .ok (.getfield 113, 3) := dzr zhdX12_bad_0 9 rfl
theorem dX12_bad_20 : decode cX12_bad 20 = .ok (.putfield 113, 3) := dzr zhdX12_bad_0 10 rfl
theorem dX12_bad_23 : decode cX12_bad 23 = .ok (.return_, 1) := dzr zhdX12_bad_0 11 rfl
def ztdX12_isDigit_0 : List (Nat × Instr × Nat) := [(0, .iload_n 0, 1), (1, .bipush 48, 2), (3, .if_icmp .lt 13, 3), (6, .iload_n 0, 1), (7, .bipush 57, 2), (9, .if_icmp .gt 7, 3), (12, .iconst 1, 1), (13, .goto 4, 3), (16, .iconst 0, 1), (17, .ireturn, 1)]
theorem zhdX12_isDigit_0 : dzC ztdX12_isDigit_0 0 (cX12_isDigit.data.toList.drop 0) = true := by decide +kernel
theorem dX12_isDigit_0 : decode cX12_isDigit 0 = .ok (.iload_n 0, 1) := dzr zhdX12_isDigit_0 0 rfl
theorem dX12_isDigit_1 : decode cX12_isDigit 1 = .ok (.bipush 48, 2) := dzr zhdX12_isDigit_0 1 rfl
theorem dX12_isDigit_3 : decode cX12_isDigit 3 = .ok (.if_icmp .lt 13, 3) := dzr zhdX12_isDigit_0 2 rfl
theorem dX12_isDigit_6 : decode cX12_isDigit 6 = .ok (.iload_n 0, 1) := dzr zhdX12_isDigit_0 3 rfl
theorem dX12_isDigit_7 : decode cX12_isDigit 7 = .ok (.bipush 57, 2) := dzr zhdX12_isDigit_0 4 rfl
theorem dX12_isDigit_9 : decode cX12_isDigit 9 = .ok (.if_icmp .gt 7, 3) := dzr zhdX12_isDigit_0 5 rfl
theorem dX12_isDigit_12 : decode cX12_isDigit 12 = .ok (.iconst 1, 1) := dzr zhdX12_isDigit_0 6 rfl
theorem dX12_isDigit_13 : decode cX12_isDigit 13 = .ok (.goto 4, 3) := dzr zhdX12_isDigit_0 7 rfl
theorem dX12_isDigit_16 : decode cX12_isDigit 16 = .ok (.iconst 0, 1) := dzr zhdX12_isDigit_0 8 rfl
theorem dX12_isDigit_17 : decode cX12_isDigit 17 = .ok (.ireturn, 1) := dzr zhdX12_isDigit_0 9 rfl
def ztdX12_put_0 : List (Nat × Instr × Nat) := [(0, .aload_n 0, 1), (1, .getfield 13, 3), (4, .sipush 520, 3), (7, .aload_n 0, 1), (8, .getfield 116, 3), (11, .imul, 1), (12, .aload_n 0, 1), (13, .getfield 19, 3), (16, .aload_n 0, 1), (17, .getfield 116, 3), (20, .iaload, 1), (21, .iadd, 1), (22, .iload_n 1, 1), (23, .iastore, 1), (24, .aload_n 0, 1), (25, .getfield 16, 3), (28, .sipush 520, 3), (31, .aload_n 0, 1), (32, .getfield 116, 3), (35, .imul, 1), (36, .aload_n 0, 1), (37, .getfield 19, 3), (40, .aload_n 0, 1), (41, .getfield 116, 3)]
theorem zhdX12_put_0 : dzC ztdX12_put_0 0 (cX12_put.data.toList.drop 0) = true := by decide +kernel
theorem dX12_put_0 : decode cX12_put 0 = .ok (.aload_n 0, 1) := dzr zhdX12_put_0 0 rfl
theorem dX12_put_1 : decode cX12_put 1 = .ok (.getfield 13, 3) := dzr zhdX12_put_0 1 rfl
theorem dX12_put_4 : decode cX12_put 4 = .ok (.sipush 520, 3) := dzr zhdX12_put_0 2 rfl
theorem dX12_put_7 : decode cX12_put 7 = .ok (.aload_n 0, 1) := dzr zhdX12_put_0 3 rfl
theorem dX12_put_8 : decode cX12_put 8 = .ok (.getfield 116, 3) := dzr zhdX12_put_0 4 rfl
theorem dX12_put_11 : decode cX12_put 11 = .ok (.imul, 1) := dzr zhdX12_put_0 5 rfl
theorem dX12_put_12 : decode cX12_put 12 = .ok (.aload_n 0, 1) := dzr zhdX12_put_0 6 rfl
theorem dX12_put_13 : decode cX12_put 13 = .ok (.getfield 19, 3) := dzr zhdX12_put_0 7 rfl
theorem dX12_put_16 : decode cX12_put 16 = .ok (.aload_n 0, 1) := dzr zhdX12_put_0 8 rfl
theorem dX12_put_17 : decode cX12_put 17 = .ok (.getfield 116, 3) := dzr zhdX12_put_0 9 rfl
theorem dX12_put_20 : decode cX12_put 20 = .ok (.iaload, 1) := dzr zhdX12_put_0 10 rfl
theorem dX12_put_21 : decode cX12_put 21 = .ok (.iadd, 1) := dzr zhdX12_put_0 11 rfl
theorem dX12_put_22 : decode cX12_put 22 = .ok (.iload_n 1, 1) := dzr zhdX12_put_0 12 rfl
theorem dX12_put_23 : decode cX12_put 23 = .ok (.iastore, 1) := dzr zhdX12_put_0 13 rfl
theorem dX12_put_24 : decode cX12_put 24 = .ok (.aload_n 0, 1) := dzr zhdX12_put_0 14 rfl
theorem dX12_put_25 : decode cX12_put 25 = .ok (.getfield 16, 3) := dzr zhdX12_put_0 15 rfl
theorem dX12_put_28 : decode cX12_put 28 = .ok (.sipush 520, 3) := dzr zhdX12_put_0 16 rfl
theorem dX12_put_31 : decode cX12_put 31 = .ok (.aload_n 0, 1) := dzr zhdX12_put_0 17 rfl
theorem dX12_put_32 : decode cX12_put 32 = .ok (.getfield 116, 3) := dzr zhdX12_put_0 18 rfl
theorem dX12_put_35 : decode cX12_put 35 = .ok (.imul, 1) := dzr zhdX12_put_0 19 rfl
theorem dX12_put_36 : decode cX12_put 36 = .ok (.aload_n 0, 1) := dzr zhdX12_put_0 20 rfl
theorem dX12_put_37 : decode cX12_put 37 = .ok (.getfield 19, 3) := dzr zhdX12_put_0 21 rfl
theorem dX12_put_40 : decode cX12_put 40 = .ok (.aload_n 0, 1) := dzr zhdX12_put_0 22 rfl
theorem dX12_put_41 : decode cX12_put 41 = .ok (.getfield 116, 3) := dzr zhdX12_put_0 23 rfl
def ztdX12_put_44 : List (Nat × Instr × Nat) := [(44, .iaload, 1), (45, .iadd, 1), (46, .iload_n 2, 1), (47, .iastore, 1), (48, .aload_n 0, 1), (49, .getfield 19, 3), (52, .aload_n 0, 1), (53, .getfield 116, 3), (56, .dup2, 1), (57, .iaload, 1), (58, .iconst 1, 1), (59, .iadd, 1), (60, .iastore, 1), (61, .return_, 1)]
theorem zhdX12_put_44 : dzC ztdX12_put_44 44 (cX12_put.data.toList.drop 44) = true := by decide +kernel
theorem dX12_put_44 : decode cX12_put 44 = .ok (.iaload, 1) := dzr zhdX12_put_44 0 rfl
theorem dX12_put_45 : decode cX12_put 45 = .ok (.iadd, 1) := dzr zhdX12_put_44 1 rfl
theorem dX12_put_46 : decode cX12_put 46 = .ok (.iload_n 2, 1) := dzr zhdX12_put_44 2 rfl
theorem dX12_put_47 : decode cX12_put 47 = .ok (.iastore, 1) := dzr zhdX12_put_44 3 rfl
theorem dX12_put_48 : decode cX12_put 48 = .ok (.aload_n 0, 1) := dzr zhdX12_put_44 4 rfl
theorem dX12_put_49 : decode cX12_put 49 = .ok (.getfield 19, 3) := dzr zhdX12_put_44 5 rfl
theorem dX12_put_52 : decode cX12_put 52 = .ok (.aload_n 0, 1) := dzr zhdX12_put_44 6 rfl
theorem dX12_put_53 : decode cX12_put 53 = .ok (.getfield 116, 3) := dzr zhdX12_put_44 7 rfl
theorem dX12_put_56 : decode cX12_put 56 = .ok (.dup2, 1) := dzr zhdX12_put_44 8 rfl
theorem dX12_put_57 : decode cX12_put 57 = .ok (.iaload, 1) := dzr zhdX12_put_44 9 rfl
theorem dX12_put_58 : decode cX12_put 58 = .ok (.iconst 1, 1) := dzr zhdX12_put_44 10 rfl
theorem dX12_put_59 : decode cX12_put 59 = .ok (.iadd, 1) := dzr zhdX12_put_44 11 rfl
theorem dX12_put_60 : decode cX12_put 60 = .ok (.iastore, 1) := dzr zhdX12_put_44 12 rfl
theorem dX12_put_61 : decode cX12_put 61 = .ok (.return_, 1) := dzr zhdX12_put_44 13 rfl
def ztdX12_letterOf_0 : List (Nat × Instr × Nat) := [(0, .iload_n 0, 1), (1, .bipush 102, 2), (3, .if_icmp .ne 7, 3), (6, .iconst 0, 1), (7, .goto 54, 3), (10, .iload_n 0, 1), (11, .bipush 115, 2), (13, .if_icmp .ne 7, 3), (16, .iconst 1, 1), (17, .goto 44, 3), (20, .iload_n 0, 1), (21, .bipush 119, 2), (23, .if_icmp .ne 7, 3), (26, .iconst 2, 1), (27, .goto 34, 3), (30, .iload_n 0, 1), (31, .bipush 97, 2), (33, .if_icmp .ne 7, 3), (36, .iconst 3, 1), (37, .goto 24, 3), (40, .iload_n 0, 1), (41, .bipush 112, 2), (43, .if_icmp .ne 7, 3), (46, .iconst 4, 1)]
theorem zhdX12_letterOf_0 : dzC ztdX12_letterOf_0 0 (cX12_letterOf.data.toList.drop 0) = true := by decide +kernel
theorem dX12_letterOf_0 : decode cX12_letterOf 0 = .ok (.iload_n 0, 1) := dzr zhdX12_letterOf_0 0 rfl
theorem dX12_letterOf_1 : decode cX12_letterOf 1 = .ok (.bipush 102, 2) := dzr zhdX12_letterOf_0 1 rfl
theorem dX12_letterOf_3 : decode cX12_letterOf 3 = .ok (.if_icmp .ne 7, 3) := dzr zhdX12_letterOf_0 2 rfl
theorem dX12_letterOf_6 : decode cX12_letterOf 6 = .ok (.iconst 0, 1) := dzr zhdX12_letterOf_0 3 rfl
theorem dX12_letterOf_7 : decode cX12_letterOf 7 = .ok (.goto 54, 3) := dzr zhdX12_letterOf_0 4 rfl
theorem dX12_letterOf_10 : decode cX12_letterOf 10 = .ok (.iload_n 0, 1) := dzr zhdX12_letterOf_0 5 rfl
theorem dX12_letterOf_11 : decode cX12_letterOf 11 = .ok (.bipush 115, 2) := dzr zhdX12_letterOf_0 6 rfl
theorem dX12_letterOf_13 : decode cX12_letterOf 13 = .ok (.if_icmp .ne 7, 3) := dzr zhdX12_letterOf_0 7 rfl
theorem dX12_letterOf_16 : decode cX12_letterOf 16 = .ok (.iconst 1, 1) := dzr zhdX12_letterOf_0 8 rfl
theorem dX12_letterOf_17 : decode cX12_letterOf 17 = .ok (.goto 44, 3) := dzr zhdX12_letterOf_0 9 rfl
theorem dX12_letterOf_20 : decode cX12_letterOf 20 = .ok (.iload_n 0, 1) := dzr zhdX12_letterOf_0 10 rfl
theorem dX12_letterOf_21 : decode cX12_letterOf 21 = .ok (.bipush 119, 2) := dzr zhdX12_letterOf_0 11 rfl
theorem dX12_letterOf_23 : decode cX12_letterOf 23 = .ok (.if_icmp .ne 7, 3) := dzr zhdX12_letterOf_0 12 rfl
theorem dX12_letterOf_26 : decode cX12_letterOf 26 = .ok (.iconst 2, 1) := dzr zhdX12_letterOf_0 13 rfl
theorem dX12_letterOf_27 : decode cX12_letterOf 27 = .ok (.goto 34, 3) := dzr zhdX12_letterOf_0 14 rfl
theorem dX12_letterOf_30 : decode cX12_letterOf 30 = .ok (.iload_n 0, 1) := dzr zhdX12_letterOf_0 15 rfl
theorem dX12_letterOf_31 : decode cX12_letterOf 31 = .ok (.bipush 97, 2) := dzr zhdX12_letterOf_0 16 rfl
theorem dX12_letterOf_33 : decode cX12_letterOf 33 = .ok (.if_icmp .ne 7, 3) := dzr zhdX12_letterOf_0 17 rfl
theorem dX12_letterOf_36 : decode cX12_letterOf 36 = .ok (.iconst 3, 1) := dzr zhdX12_letterOf_0 18 rfl
theorem dX12_letterOf_37 : decode cX12_letterOf 37 = .ok (.goto 24, 3) := dzr zhdX12_letterOf_0 19 rfl
theorem dX12_letterOf_40 : decode cX12_letterOf 40 = .ok (.iload_n 0, 1) := dzr zhdX12_letterOf_0 20 rfl
theorem dX12_letterOf_41 : decode cX12_letterOf 41 = .ok (.bipush 112, 2) := dzr zhdX12_letterOf_0 21 rfl
theorem dX12_letterOf_43 : decode cX12_letterOf 43 = .ok (.if_icmp .ne 7, 3) := dzr zhdX12_letterOf_0 22 rfl
theorem dX12_letterOf_46 : decode cX12_letterOf 46 = .ok (.iconst 4, 1) := dzr zhdX12_letterOf_0 23 rfl
def ztdX12_letterOf_47 : List (Nat × Instr × Nat) := [(47, .goto 14, 3), (50, .iload_n 0, 1), (51, .bipush 100, 2), (53, .if_icmp .ne 7, 3), (56, .iconst 5, 1), (57, .goto 4, 3), (60, .iconst (-1), 1), (61, .ireturn, 1)]
theorem zhdX12_letterOf_47 : dzC ztdX12_letterOf_47 47 (cX12_letterOf.data.toList.drop 47) = true := by decide +kernel
theorem dX12_letterOf_47 : decode cX12_letterOf 47 = .ok (.goto 14, 3) := dzr zhdX12_letterOf_47 0 rfl
theorem dX12_letterOf_50 : decode cX12_letterOf 50 = .ok (.iload_n 0, 1) := dzr zhdX12_letterOf_47 1 rfl
theorem dX12_letterOf_51 : decode cX12_letterOf 51 = .ok (.bipush 100, 2) := dzr zhdX12_letterOf_47 2 rfl
theorem dX12_letterOf_53 : decode cX12_letterOf 53 = .ok (.if_icmp .ne 7, 3) := dzr zhdX12_letterOf_47 3 rfl
theorem dX12_letterOf_56 : decode cX12_letterOf 56 = .ok (.iconst 5, 1) := dzr zhdX12_letterOf_47 4 rfl
theorem dX12_letterOf_57 : decode cX12_letterOf 57 = .ok (.goto 4, 3) := dzr zhdX12_letterOf_47 5 rfl
theorem dX12_letterOf_60 : decode cX12_letterOf 60 = .ok (.iconst (-1), 1) := dzr zhdX12_letterOf_47 6 rfl
theorem dX12_letterOf_61 : decode cX12_letterOf 61 = .ok (.ireturn, 1) := dzr zhdX12_letterOf_47 7 rfl
theorem ggX12_opens_X12_bad : GoodIn wsX12_opens wsX12_bad := (bg_up (bg_law (bi_wsL_law0_r16 _ (List.mem_of_getElem? (i := 18) rfl))))
theorem gX12_opens_X12_bad : GoodIn wsX12_opens (wsV RX12 122 RX12 yX12_bad wsX12_bad) := goodIn_app (bg_up (bg_cons (bi_wsL_law0_r16 _ (List.mem_of_getElem? (i := 15) rfl)) (bg_cons (bi_wsL_law0_r16 _ (List.mem_of_getElem? (i := 16) rfl)) (bg_cons (bi_wsL_law0_r16 _ (List.mem_of_getElem? (i := 17) rfl)) (bg_cons (bi_wsL_law0_r1 _ (List.mem_of_getElem? (i := 5) rfl)) bg_nil))))) (bg_up (bg_law (bi_wsL_law0_r16 _ (List.mem_of_getElem? (i := 18) rfl))))
def ztdX12_opens_0 : List (Nat × Instr × Nat) := [(0, .aload_n 0, 1), (1, .getfield 119, 3), (4, .bipush 6, 2), (6, .if_icmp .ne 7, 3), (9, .aload_n 0, 1), (10, .invokevirtual 122, 3), (13, .aload_n 0, 1), (14, .dup, 1), (15, .getfield 119, 3), (18, .iconst 1, 1), (19, .iadd, 1), (20, .putfield 119, 3), (23, .aload_n 0, 1), (24, .dup, 1), (25, .getfield 106, 3), (28, .iconst 1, 1), (29, .iadd, 1), (30, .putfield 106, 3), (33, .return_, 1)]
theorem zhdX12_opens_0 : dzC ztdX12_opens_0 0 (cX12_opens.data.toList.drop 0) = true := by decide +kernel
theorem dX12_opens_0 : decode cX12_opens 0 = .ok (.aload_n 0, 1) := dzr zhdX12_opens_0 0 rfl
theorem dX12_opens_1 : decode cX12_opens 1 = .ok (.getfield 119, 3) := dzr zhdX12_opens_0 1 rfl
theorem dX12_opens_4 : decode cX12_opens 4 = .ok (.bipush 6, 2) := dzr zhdX12_opens_0 2 rfl
theorem dX12_opens_6 : decode cX12_opens 6 = .ok (.if_icmp .ne 7, 3) := dzr zhdX12_opens_0 3 rfl
theorem dX12_opens_9 : decode cX12_opens 9 = .ok (.aload_n 0, 1) := dzr zhdX12_opens_0 4 rfl
theorem dX12_opens_10 : decode cX12_opens 10 = .ok (.invokevirtual 122, 3) := dzr zhdX12_opens_0 5 rfl
theorem dX12_opens_13 : decode cX12_opens 13 = .ok (.aload_n 0, 1) := dzr zhdX12_opens_0 6 rfl
theorem dX12_opens_14 : decode cX12_opens 14 = .ok (.dup, 1) := dzr zhdX12_opens_0 7 rfl
theorem dX12_opens_15 : decode cX12_opens 15 = .ok (.getfield 119, 3) := dzr zhdX12_opens_0 8 rfl
theorem dX12_opens_18 : decode cX12_opens 18 = .ok (.iconst 1, 1) := dzr zhdX12_opens_0 9 rfl
theorem dX12_opens_19 : decode cX12_opens 19 = .ok (.iadd, 1) := dzr zhdX12_opens_0 10 rfl
theorem dX12_opens_20 : decode cX12_opens 20 = .ok (.putfield 119, 3) := dzr zhdX12_opens_0 11 rfl
theorem dX12_opens_23 : decode cX12_opens 23 = .ok (.aload_n 0, 1) := dzr zhdX12_opens_0 12 rfl
theorem dX12_opens_24 : decode cX12_opens 24 = .ok (.dup, 1) := dzr zhdX12_opens_0 13 rfl
theorem dX12_opens_25 : decode cX12_opens 25 = .ok (.getfield 106, 3) := dzr zhdX12_opens_0 14 rfl
theorem dX12_opens_28 : decode cX12_opens 28 = .ok (.iconst 1, 1) := dzr zhdX12_opens_0 15 rfl
theorem dX12_opens_29 : decode cX12_opens 29 = .ok (.iadd, 1) := dzr zhdX12_opens_0 16 rfl
theorem dX12_opens_30 : decode cX12_opens 30 = .ok (.putfield 106, 3) := dzr zhdX12_opens_0 17 rfl
theorem dX12_opens_33 : decode cX12_opens 33 = .ok (.return_, 1) := dzr zhdX12_opens_0 18 rfl
theorem ggX12_closes_X12_look : GoodIn wsX12_closes wsX12_look := (bg_up (bg_law (bi_wsL_law0_r15 _ (List.mem_of_getElem? (i := 14) rfl))))
theorem gX12_closes_X12_look : GoodIn wsX12_closes (wsV RX12 125 RX12 yX12_look wsX12_look) := goodIn_app (bg_up (bg_cons (bi_wsL_law0_r15 _ (List.mem_of_getElem? (i := 11) rfl)) (bg_cons (bi_wsL_law0_r15 _ (List.mem_of_getElem? (i := 12) rfl)) (bg_cons (bi_wsL_law0_r15 _ (List.mem_of_getElem? (i := 13) rfl)) (bg_cons (bi_wsL_law0_r1 _ (List.mem_of_getElem? (i := 5) rfl)) bg_nil))))) (bg_up (bg_law (bi_wsL_law0_r15 _ (List.mem_of_getElem? (i := 14) rfl))))
theorem ggX12_closes_X12_bad : GoodIn wsX12_closes wsX12_bad := (bg_up (bg_law (bi_wsL_law0_r16 _ (List.mem_of_getElem? (i := 18) rfl))))
theorem gX12_closes_X12_bad : GoodIn wsX12_closes (wsV RX12 122 RX12 yX12_bad wsX12_bad) := goodIn_app (bg_up (bg_cons (bi_wsL_law0_r16 _ (List.mem_of_getElem? (i := 15) rfl)) (bg_cons (bi_wsL_law0_r16 _ (List.mem_of_getElem? (i := 16) rfl)) (bg_cons (bi_wsL_law0_r16 _ (List.mem_of_getElem? (i := 17) rfl)) (bg_cons (bi_wsL_law0_r1 _ (List.mem_of_getElem? (i := 5) rfl)) bg_nil))))) (bg_up (bg_law (bi_wsL_law0_r16 _ (List.mem_of_getElem? (i := 18) rfl))))
def ztdX12_closes_0 : List (Nat × Instr × Nat) := [(0, .aload_n 0, 1), (1, .getfield 113, 3), (4, .iconst (-1), 1), (5, .if_icmp .ne 15, 3), (8, .aload_n 0, 1), (9, .invokevirtual 125, 3), (12, .iload_n 1, 1), (13, .if_icmp .eq 7, 3), (16, .aload_n 0, 1), (17, .invokevirtual 122, 3), (20, .aload_n 0, 1), (21, .dup, 1), (22, .getfield 106, 3), (25, .iconst 1, 1), (26, .iadd, 1), (27, .putfield 106, 3), (30, .aload_n 0, 1), (31, .dup, 1), (32, .getfield 119, 3), (35, .iconst 1, 1), (36, .isub, 1), (37, .putfield 119, 3), (40, .return_, 1)]
theorem zhdX12_closes_0 : dzC ztdX12_closes_0 0 (cX12_closes.data.toList.drop 0) = true := by decide +kernel
theorem dX12_closes_0 : decode cX12_closes 0 = .ok (.aload_n 0, 1) := dzr zhdX12_closes_0 0 rfl
theorem dX12_closes_1 : decode cX12_closes 1 = .ok (.getfield 113, 3) := dzr zhdX12_closes_0 1 rfl
theorem dX12_closes_4 : decode cX12_closes 4 = .ok (.iconst (-1), 1) := dzr zhdX12_closes_0 2 rfl
theorem dX12_closes_5 : decode cX12_closes 5 = .ok (.if_icmp .ne 15, 3) := dzr zhdX12_closes_0 3 rfl
theorem dX12_closes_8 : decode cX12_closes 8 = .ok (.aload_n 0, 1) := dzr zhdX12_closes_0 4 rfl
theorem dX12_closes_9 : decode cX12_closes 9 = .ok (.invokevirtual 125, 3) := dzr zhdX12_closes_0 5 rfl
theorem dX12_closes_12 : decode cX12_closes 12 = .ok (.iload_n 1, 1) := dzr zhdX12_closes_0 6 rfl
theorem dX12_closes_13 : decode cX12_closes 13 = .ok (.if_icmp .eq 7, 3) := dzr zhdX12_closes_0 7 rfl
theorem dX12_closes_16 : decode cX12_closes 16 = .ok (.aload_n 0, 1) := dzr zhdX12_closes_0 8 rfl
theorem dX12_closes_17 : decode cX12_closes 17 = .ok (.invokevirtual 122, 3) := dzr zhdX12_closes_0 9 rfl
theorem dX12_closes_20 : decode cX12_closes 20 = .ok (.aload_n 0, 1) := dzr zhdX12_closes_0 10 rfl
theorem dX12_closes_21 : decode cX12_closes 21 = .ok (.dup, 1) := dzr zhdX12_closes_0 11 rfl
theorem dX12_closes_22 : decode cX12_closes 22 = .ok (.getfield 106, 3) := dzr zhdX12_closes_0 12 rfl
theorem dX12_closes_25 : decode cX12_closes 25 = .ok (.iconst 1, 1) := dzr zhdX12_closes_0 13 rfl
theorem dX12_closes_26 : decode cX12_closes 26 = .ok (.iadd, 1) := dzr zhdX12_closes_0 14 rfl
theorem dX12_closes_27 : decode cX12_closes 27 = .ok (.putfield 106, 3) := dzr zhdX12_closes_0 15 rfl
theorem dX12_closes_30 : decode cX12_closes 30 = .ok (.aload_n 0, 1) := dzr zhdX12_closes_0 16 rfl
theorem dX12_closes_31 : decode cX12_closes 31 = .ok (.dup, 1) := dzr zhdX12_closes_0 17 rfl
theorem dX12_closes_32 : decode cX12_closes 32 = .ok (.getfield 119, 3) := dzr zhdX12_closes_0 18 rfl
theorem dX12_closes_35 : decode cX12_closes 35 = .ok (.iconst 1, 1) := dzr zhdX12_closes_0 19 rfl
theorem dX12_closes_36 : decode cX12_closes 36 = .ok (.isub, 1) := dzr zhdX12_closes_0 20 rfl
theorem dX12_closes_37 : decode cX12_closes 37 = .ok (.putfield 119, 3) := dzr zhdX12_closes_0 21 rfl
theorem dX12_closes_40 : decode cX12_closes 40 = .ok (.return_, 1) := dzr zhdX12_closes_0 22 rfl
theorem ggX12_plainNumber_X12_here : GoodIn wsX12_plainNumber wsX12_here := (bg_up (bg_law (bi_wsL_law0_r15 _ (List.mem_of_getElem? (i := 18) rfl))))
theorem gX12_plainNumber_X12_here : GoodIn wsX12_plainNumber (wsV RX12 109 RX12 yX12_here wsX12_here) := goodIn_app (bg_up (bg_cons (bi_wsL_law0_r15 _ (List.mem_of_getElem? (i := 15) rfl)) (bg_cons (bi_wsL_law0_r15 _ (List.mem_of_getElem? (i := 16) rfl)) (bg_cons (bi_wsL_law0_r15 _ (List.mem_of_getElem? (i := 17) rfl)) (bg_cons (bi_wsL_law0_r1 _ (List.mem_of_getElem? (i := 5) rfl)) bg_nil))))) (bg_up (bg_law (bi_wsL_law0_r15 _ (List.mem_of_getElem? (i := 18) rfl))))
theorem ggX12_plainNumber_X12_isDigit : GoodIn wsX12_plainNumber wsX12_isDigit := (bg_up (bg_law (bi_wsL_law0_r16 _ (List.mem_of_getElem? (i := 14) rfl))))
theorem gX12_plainNumber_X12_isDigit : GoodIn wsX12_plainNumber (va_wsS RX12 128 yX12_isDigit wsX12_isDigit) := goodIn_app (bg_up (bg_cons (bi_wsL_law0_r16 _ (List.mem_of_getElem? (i := 12) rfl)) (bg_cons (bi_wsL_law0_r16 _ (List.mem_of_getElem? (i := 13) rfl)) (bg_cons (bi_wsL_law0_r1 _ (List.mem_of_getElem? (i := 5) rfl)) bg_nil)))) (bg_up (bg_law (bi_wsL_law0_r16 _ (List.mem_of_getElem? (i := 14) rfl))))
theorem ggX12_plainNumber_X12_bad : GoodIn wsX12_plainNumber wsX12_bad := (bg_up (bg_law (bi_wsL_law0_r16 _ (List.mem_of_getElem? (i := 18) rfl))))
theorem gX12_plainNumber_X12_bad : GoodIn wsX12_plainNumber (wsV RX12 122 RX12 yX12_bad wsX12_bad) := goodIn_app (bg_up (bg_cons (bi_wsL_law0_r16 _ (List.mem_of_getElem? (i := 15) rfl)) (bg_cons (bi_wsL_law0_r16 _ (List.mem_of_getElem? (i := 16) rfl)) (bg_cons (bi_wsL_law0_r16 _ (List.mem_of_getElem? (i := 17) rfl)) (bg_cons (bi_wsL_law0_r1 _ (List.mem_of_getElem? (i := 5) rfl)) bg_nil))))) (bg_up (bg_law (bi_wsL_law0_r16 _ (List.mem_of_getElem? (i := 18) rfl))))
def ztdX12_plainNumber_0 : List (Nat × Instr × Nat) := [(0, .iconst 0, 1), (1, .istore_n 1, 1), (2, .iconst 0, 1), (3, .istore_n 2, 1), (4, .iload_n 2, 1), (5, .iconst 4, 1), (6, .if_icmp .ge 42, 3), (9, .aload_n 0, 1), (10, .invokevirtual 109, 3), (13, .invokestatic 128, 3), (16, .ifCond .eq 32, 3), (19, .bipush 10, 2), (21, .iload_n 1, 1), (22, .imul, 1), (23, .aload_n 0, 1), (24, .invokevirtual 109, 3), (27, .iadd, 1), (28, .bipush 48, 2), (30, .isub, 1), (31, .istore_n 1, 1), (32, .aload_n 0, 1), (33, .dup, 1), (34, .getfield 106, 3), (37, .iconst 1, 1)]
theorem zhdX12_plainNumber_0 : dzC ztdX12_plainNumber_0 0 (cX12_plainNumber.data.toList.drop 0) = true := by decide +kernel
theorem dX12_plainNumber_0 : decode cX12_plainNumber 0 = .ok (.iconst 0, 1) := dzr zhdX12_plainNumber_0 0 rfl
theorem dX12_plainNumber_1 : decode cX12_plainNumber 1 = .ok (.istore_n 1, 1) := dzr zhdX12_plainNumber_0 1 rfl
theorem dX12_plainNumber_2 : decode cX12_plainNumber 2 = .ok (.iconst 0, 1) := dzr zhdX12_plainNumber_0 2 rfl
theorem dX12_plainNumber_3 : decode cX12_plainNumber 3 = .ok (.istore_n 2, 1) := dzr zhdX12_plainNumber_0 3 rfl
theorem dX12_plainNumber_4 : decode cX12_plainNumber 4 = .ok (.iload_n 2, 1) := dzr zhdX12_plainNumber_0 4 rfl
theorem dX12_plainNumber_5 : decode cX12_plainNumber 5 = .ok (.iconst 4, 1) := dzr zhdX12_plainNumber_0 5 rfl
theorem dX12_plainNumber_6 : decode cX12_plainNumber 6 = .ok (.if_icmp .ge 42, 3) := dzr zhdX12_plainNumber_0 6 rfl
theorem dX12_plainNumber_9 : decode cX12_plainNumber 9 = .ok (.aload_n 0, 1) := dzr zhdX12_plainNumber_0 7 rfl
theorem dX12_plainNumber_10 : decode cX12_plainNumber 10 = .ok (.invokevirtual 109, 3) := dzr zhdX12_plainNumber_0 8 rfl
theorem dX12_plainNumber_13 : decode cX12_plainNumber 13 = .ok (.invokestatic 128, 3) := dzr zhdX12_plainNumber_0 9 rfl
theorem dX12_plainNumber_16 : decode cX12_plainNumber 16 = .ok (.ifCond .eq 32, 3) := dzr zhdX12_plainNumber_0 10 rfl
theorem dX12_plainNumber_19 : decode cX12_plainNumber 19 = .ok (.bipush 10, 2) := dzr zhdX12_plainNumber_0 11 rfl
theorem dX12_plainNumber_21 : decode cX12_plainNumber 21 = .ok (.iload_n 1, 1) := dzr zhdX12_plainNumber_0 12 rfl
theorem dX12_plainNumber_22 : decode cX12_plainNumber 22 = .ok (.imul, 1) := dzr zhdX12_plainNumber_0 13 rfl
theorem dX12_plainNumber_23 : decode cX12_plainNumber 23 = .ok (.aload_n 0, 1) := dzr zhdX12_plainNumber_0 14 rfl
theorem dX12_plainNumber_24 : decode cX12_plainNumber 24 = .ok (.invokevirtual 109, 3) := dzr zhdX12_plainNumber_0 15 rfl
theorem dX12_plainNumber_27 : decode cX12_plainNumber 27 = .ok (.iadd, 1) := dzr zhdX12_plainNumber_0 16 rfl
theorem dX12_plainNumber_28 : decode cX12_plainNumber 28 = .ok (.bipush 48, 2) := dzr zhdX12_plainNumber_0 17 rfl
theorem dX12_plainNumber_30 : decode cX12_plainNumber 30 = .ok (.isub, 1) := dzr zhdX12_plainNumber_0 18 rfl
theorem dX12_plainNumber_31 : decode cX12_plainNumber 31 = .ok (.istore_n 1, 1) := dzr zhdX12_plainNumber_0 19 rfl
theorem dX12_plainNumber_32 : decode cX12_plainNumber 32 = .ok (.aload_n 0, 1) := dzr zhdX12_plainNumber_0 20 rfl
theorem dX12_plainNumber_33 : decode cX12_plainNumber 33 = .ok (.dup, 1) := dzr zhdX12_plainNumber_0 21 rfl
theorem dX12_plainNumber_34 : decode cX12_plainNumber 34 = .ok (.getfield 106, 3) := dzr zhdX12_plainNumber_0 22 rfl
theorem dX12_plainNumber_37 : decode cX12_plainNumber 37 = .ok (.iconst 1, 1) := dzr zhdX12_plainNumber_0 23 rfl
def ztdX12_plainNumber_38 : List (Nat × Instr × Nat) := [(38, .iadd, 1), (39, .putfield 106, 3), (42, .iinc 2 1, 3), (45, .goto (-41), 3), (48, .aload_n 0, 1), (49, .invokevirtual 109, 3), (52, .invokestatic 128, 3), (55, .ifCond .eq 7, 3), (58, .aload_n 0, 1), (59, .invokevirtual 122, 3), (62, .iload_n 1, 1), (63, .ireturn, 1)]
theorem zhdX12_plainNumber_38 : dzC ztdX12_plainNumber_38 38 (cX12_plainNumber.data.toList.drop 38) = true := by decide +kernel
theorem dX12_plainNumber_38 : decode cX12_plainNumber 38 = .ok (.iadd, 1) := dzr zhdX12_plainNumber_38 0 rfl
theorem dX12_plainNumber_39 : decode cX12_plainNumber 39 = .ok (.putfield 106, 3) := dzr zhdX12_plainNumber_38 1 rfl
theorem dX12_plainNumber_42 : decode cX12_plainNumber 42 = .ok (.iinc 2 1, 3) := dzr zhdX12_plainNumber_38 2 rfl
theorem dX12_plainNumber_45 : decode cX12_plainNumber 45 = .ok (.goto (-41), 3) := dzr zhdX12_plainNumber_38 3 rfl
theorem dX12_plainNumber_48 : decode cX12_plainNumber 48 = .ok (.aload_n 0, 1) := dzr zhdX12_plainNumber_38 4 rfl
theorem dX12_plainNumber_49 : decode cX12_plainNumber 49 = .ok (.invokevirtual 109, 3) := dzr zhdX12_plainNumber_38 5 rfl
theorem dX12_plainNumber_52 : decode cX12_plainNumber 52 = .ok (.invokestatic 128, 3) := dzr zhdX12_plainNumber_38 6 rfl
theorem dX12_plainNumber_55 : decode cX12_plainNumber 55 = .ok (.ifCond .eq 7, 3) := dzr zhdX12_plainNumber_38 7 rfl
theorem dX12_plainNumber_58 : decode cX12_plainNumber 58 = .ok (.aload_n 0, 1) := dzr zhdX12_plainNumber_38 8 rfl
theorem dX12_plainNumber_59 : decode cX12_plainNumber 59 = .ok (.invokevirtual 122, 3) := dzr zhdX12_plainNumber_38 9 rfl
theorem dX12_plainNumber_62 : decode cX12_plainNumber 62 = .ok (.iload_n 1, 1) := dzr zhdX12_plainNumber_38 10 rfl
theorem dX12_plainNumber_63 : decode cX12_plainNumber 63 = .ok (.ireturn, 1) := dzr zhdX12_plainNumber_38 11 rfl
theorem ggX12_atom_X12_look : GoodIn wsX12_atom wsX12_look := (bg_up (bg_law (bi_wsL_law0_r15 _ (List.mem_of_getElem? (i := 14) rfl))))
theorem gX12_atom_X12_look : GoodIn wsX12_atom (wsV RX12 125 RX12 yX12_look wsX12_look) := goodIn_app (bg_up (bg_cons (bi_wsL_law0_r15 _ (List.mem_of_getElem? (i := 11) rfl)) (bg_cons (bi_wsL_law0_r15 _ (List.mem_of_getElem? (i := 12) rfl)) (bg_cons (bi_wsL_law0_r15 _ (List.mem_of_getElem? (i := 13) rfl)) (bg_cons (bi_wsL_law0_r1 _ (List.mem_of_getElem? (i := 5) rfl)) bg_nil))))) (bg_up (bg_law (bi_wsL_law0_r15 _ (List.mem_of_getElem? (i := 14) rfl))))
theorem ggX12_atom_X12_isDigit : GoodIn wsX12_atom wsX12_isDigit := (bg_up (bg_law (bi_wsL_law0_r16 _ (List.mem_of_getElem? (i := 14) rfl))))
theorem gX12_atom_X12_isDigit : GoodIn wsX12_atom (va_wsS RX12 128 yX12_isDigit wsX12_isDigit) := goodIn_app (bg_up (bg_cons (bi_wsL_law0_r16 _ (List.mem_of_getElem? (i := 12) rfl)) (bg_cons (bi_wsL_law0_r16 _ (List.mem_of_getElem? (i := 13) rfl)) (bg_cons (bi_wsL_law0_r1 _ (List.mem_of_getElem? (i := 5) rfl)) bg_nil)))) (bg_up (bg_law (bi_wsL_law0_r16 _ (List.mem_of_getElem? (i := 14) rfl))))
theorem ggX12_atom_X12_plainNumber : GoodIn wsX12_atom wsX12_plainNumber := (bg_up (bg_law (bi_wsL_law0_r19 _ (List.mem_of_getElem? (i := 7) rfl))))
theorem gX12_atom_X12_plainNumber : GoodIn wsX12_atom (wsV RX12 132 RX12 yX12_plainNumber wsX12_plainNumber) := goodIn_app (bg_up (bg_cons (bi_wsL_law0_r19 _ (List.mem_of_getElem? (i := 4) rfl)) (bg_cons (bi_wsL_law0_r19 _ (List.mem_of_getElem? (i := 5) rfl)) (bg_cons (bi_wsL_law0_r19 _ (List.mem_of_getElem? (i := 6) rfl)) (bg_cons (bi_wsL_law0_r1 _ (List.mem_of_getElem? (i := 5) rfl)) bg_nil))))) (bg_up (bg_law (bi_wsL_law0_r19 _ (List.mem_of_getElem? (i := 7) rfl))))
theorem ggX12_atom_X12_put : GoodIn wsX12_atom wsX12_put := (bg_up (bg_law (bi_wsL_law0_r18 _ (List.mem_of_getElem? (i := 9) rfl))))
theorem gX12_atom_X12_put : GoodIn wsX12_atom (wsV RX12 135 RX12 yX12_put wsX12_put) := goodIn_app (bg_up (bg_cons (bi_wsL_law0_r18 _ (List.mem_of_getElem? (i := 6) rfl)) (bg_cons (bi_wsL_law0_r18 _ (List.mem_of_getElem? (i := 7) rfl)) (bg_cons (bi_wsL_law0_r18 _ (List.mem_of_getElem? (i := 8) rfl)) (bg_cons (bi_wsL_law0_r1 _ (List.mem_of_getElem? (i := 5) rfl)) bg_nil))))) (bg_up (bg_law (bi_wsL_law0_r18 _ (List.mem_of_getElem? (i := 9) rfl))))
theorem ggX12_atom_X12_letterOf : GoodIn wsX12_atom wsX12_letterOf := (bg_up (bg_law (bi_wsL_law0_r19 _ (List.mem_of_getElem? (i := 10) rfl))))
theorem gX12_atom_X12_letterOf : GoodIn wsX12_atom (va_wsS RX12 139 yX12_letterOf wsX12_letterOf) := goodIn_app (bg_up (bg_cons (bi_wsL_law0_r19 _ (List.mem_of_getElem? (i := 8) rfl)) (bg_cons (bi_wsL_law0_r19 _ (List.mem_of_getElem? (i := 9) rfl)) (bg_cons (bi_wsL_law0_r1 _ (List.mem_of_getElem? (i := 5) rfl)) bg_nil)))) (bg_up (bg_law (bi_wsL_law0_r19 _ (List.mem_of_getElem? (i := 10) rfl))))
theorem ggX12_atom_X12_opens : GoodIn wsX12_atom wsX12_opens := (bg_up (bg_law (bi_wsL_law0_r18 _ (List.mem_of_getElem? (i := 15) rfl))))
theorem gX12_atom_X12_opens : GoodIn wsX12_atom (wsV RX12 143 RX12 yX12_opens wsX12_opens) := goodIn_app (bg_up (bg_cons (bi_wsL_law0_r18 _ (List.mem_of_getElem? (i := 12) rfl)) (bg_cons (bi_wsL_law0_r18 _ (List.mem_of_getElem? (i := 13) rfl)) (bg_cons (bi_wsL_law0_r18 _ (List.mem_of_getElem? (i := 14) rfl)) (bg_cons (bi_wsL_law0_r1 _ (List.mem_of_getElem? (i := 5) rfl)) bg_nil))))) (bg_up (bg_law (bi_wsL_law0_r18 _ (List.mem_of_getElem? (i := 15) rfl))))
theorem ggX12_atom_X12_sum : GoodIn wsX12_atom wsX12_sum := (bg_up (bg_law (bi_wsL_law0_r18 _ (List.mem_of_getElem? (i := 23) rfl))))
theorem gX12_atom_X12_sum : GoodIn wsX12_atom (wsV RX12 146 RX12 yX12_sum wsX12_sum) := goodIn_app (bg_up (bg_cons (bi_wsL_law0_r18 _ (List.mem_of_getElem? (i := 20) rfl)) (bg_cons (bi_wsL_law0_r18 _ (List.mem_of_getElem? (i := 21) rfl)) (bg_cons (bi_wsL_law0_r18 _ (List.mem_of_getElem? (i := 22) rfl)) (bg_cons (bi_wsL_law0_r1 _ (List.mem_of_getElem? (i := 5) rfl)) bg_nil))))) (bg_up (bg_law (bi_wsL_law0_r18 _ (List.mem_of_getElem? (i := 23) rfl))))
theorem ggX12_atom_X12_closes : GoodIn wsX12_atom wsX12_closes := (bg_up (bg_law (bi_wsL_law0_r18 _ (List.mem_of_getElem? (i := 19) rfl))))
theorem gX12_atom_X12_closes : GoodIn wsX12_atom (wsV RX12 149 RX12 yX12_closes wsX12_closes) := goodIn_app (bg_up (bg_cons (bi_wsL_law0_r18 _ (List.mem_of_getElem? (i := 16) rfl)) (bg_cons (bi_wsL_law0_r18 _ (List.mem_of_getElem? (i := 17) rfl)) (bg_cons (bi_wsL_law0_r18 _ (List.mem_of_getElem? (i := 18) rfl)) (bg_cons (bi_wsL_law0_r1 _ (List.mem_of_getElem? (i := 5) rfl)) bg_nil))))) (bg_up (bg_law (bi_wsL_law0_r18 _ (List.mem_of_getElem? (i := 19) rfl))))
theorem ggX12_atom_X12_bad : GoodIn wsX12_atom wsX12_bad := (bg_up (bg_law (bi_wsL_law0_r16 _ (List.mem_of_getElem? (i := 18) rfl))))
theorem gX12_atom_X12_bad : GoodIn wsX12_atom (wsV RX12 122 RX12 yX12_bad wsX12_bad) := goodIn_app (bg_up (bg_cons (bi_wsL_law0_r16 _ (List.mem_of_getElem? (i := 15) rfl)) (bg_cons (bi_wsL_law0_r16 _ (List.mem_of_getElem? (i := 16) rfl)) (bg_cons (bi_wsL_law0_r16 _ (List.mem_of_getElem? (i := 17) rfl)) (bg_cons (bi_wsL_law0_r1 _ (List.mem_of_getElem? (i := 5) rfl)) bg_nil))))) (bg_up (bg_law (bi_wsL_law0_r16 _ (List.mem_of_getElem? (i := 18) rfl))))
def ztdX12_atom_0 : List (Nat × Instr × Nat) := [(0, .aload_n 0, 1), (1, .invokevirtual 125, 3), (4, .istore_n 1, 1), (5, .iload_n 1, 1), (6, .invokestatic 128, 3), (9, .ifCond .eq 15, 3), (12, .aload_n 0, 1), (13, .iconst 0, 1), (14, .aload_n 0, 1), (15, .invokevirtual 132, 3), (18, .invokevirtual 135, 3), (21, .goto 68, 3), (24, .iload_n 1, 1), (25, .invokestatic 139, 3), (28, .iconst (-1), 1), (29, .if_icmp .eq 25, 3), (32, .aload_n 0, 1), (33, .dup, 1), (34, .getfield 106, 3), (37, .iconst 1, 1), (38, .iadd, 1), (39, .putfield 106, 3), (42, .aload_n 0, 1), (43, .iconst 1, 1)]
theorem zhdX12_atom_0 : dzC ztdX12_atom_0 0 (cX12_atom.data.toList.drop 0) = true := by decide +kernel
theorem dX12_atom_0 : decode cX12_atom 0 = .ok (.aload_n 0, 1) := dzr zhdX12_atom_0 0 rfl
theorem dX12_atom_1 : decode cX12_atom 1 = .ok (.invokevirtual 125, 3) := dzr zhdX12_atom_0 1 rfl
theorem dX12_atom_4 : decode cX12_atom 4 = .ok (.istore_n 1, 1) := dzr zhdX12_atom_0 2 rfl
theorem dX12_atom_5 : decode cX12_atom 5 = .ok (.iload_n 1, 1) := dzr zhdX12_atom_0 3 rfl
theorem dX12_atom_6 : decode cX12_atom 6 = .ok (.invokestatic 128, 3) := dzr zhdX12_atom_0 4 rfl
theorem dX12_atom_9 : decode cX12_atom 9 = .ok (.ifCond .eq 15, 3) := dzr zhdX12_atom_0 5 rfl
theorem dX12_atom_12 : decode cX12_atom 12 = .ok (.aload_n 0, 1) := dzr zhdX12_atom_0 6 rfl
theorem dX12_atom_13 : decode cX12_atom 13 = .ok (.iconst 0, 1) := dzr zhdX12_atom_0 7 rfl
theorem dX12_atom_14 : decode cX12_atom 14 = .ok (.aload_n 0, 1) := dzr zhdX12_atom_0 8 rfl
theorem dX12_atom_15 : decode cX12_atom 15 = .ok (.invokevirtual 132, 3) := dzr zhdX12_atom_0 9 rfl
theorem dX12_atom_18 : decode cX12_atom 18 = .ok (.invokevirtual 135, 3) := dzr zhdX12_atom_0 10 rfl
theorem dX12_atom_21 : decode cX12_atom 21 = .ok (.goto 68, 3) := dzr zhdX12_atom_0 11 rfl
theorem dX12_atom_24 : decode cX12_atom 24 = .ok (.iload_n 1, 1) := dzr zhdX12_atom_0 12 rfl
theorem dX12_atom_25 : decode cX12_atom 25 = .ok (.invokestatic 139, 3) := dzr zhdX12_atom_0 13 rfl
theorem dX12_atom_28 : decode cX12_atom 28 = .ok (.iconst (-1), 1) := dzr zhdX12_atom_0 14 rfl
theorem dX12_atom_29 : decode cX12_atom 29 = .ok (.if_icmp .eq 25, 3) := dzr zhdX12_atom_0 15 rfl
theorem dX12_atom_32 : decode cX12_atom 32 = .ok (.aload_n 0, 1) := dzr zhdX12_atom_0 16 rfl
theorem dX12_atom_33 : decode cX12_atom 33 = .ok (.dup, 1) := dzr zhdX12_atom_0 17 rfl
theorem dX12_atom_34 : decode cX12_atom 34 = .ok (.getfield 106, 3) := dzr zhdX12_atom_0 18 rfl
theorem dX12_atom_37 : decode cX12_atom 37 = .ok (.iconst 1, 1) := dzr zhdX12_atom_0 19 rfl
theorem dX12_atom_38 : decode cX12_atom 38 = .ok (.iadd, 1) := dzr zhdX12_atom_0 20 rfl
theorem dX12_atom_39 : decode cX12_atom 39 = .ok (.putfield 106, 3) := dzr zhdX12_atom_0 21 rfl
theorem dX12_atom_42 : decode cX12_atom 42 = .ok (.aload_n 0, 1) := dzr zhdX12_atom_0 22 rfl
theorem dX12_atom_43 : decode cX12_atom 43 = .ok (.iconst 1, 1) := dzr zhdX12_atom_0 23 rfl
def ztdX12_atom_44 : List (Nat × Instr × Nat) := [(44, .iload_n 1, 1), (45, .invokestatic 139, 3), (48, .invokevirtual 135, 3), (51, .goto 38, 3), (54, .iload_n 1, 1), (55, .bipush 91, 2), (57, .if_icmp .ne 28, 3), (60, .aload_n 0, 1), (61, .invokevirtual 143, 3), (64, .aload_n 0, 1), (65, .getfield 113, 3), (68, .iconst (-1), 1), (69, .if_icmp .ne 20, 3), (72, .aload_n 0, 1), (73, .invokevirtual 146, 3), (76, .aload_n 0, 1), (77, .bipush 93, 2), (79, .invokevirtual 149, 3), (82, .goto 7, 3), (85, .aload_n 0, 1), (86, .invokevirtual 122, 3), (89, .return_, 1)]
theorem zhdX12_atom_44 : dzC ztdX12_atom_44 44 (cX12_atom.data.toList.drop 44) = true := by decide +kernel
theorem dX12_atom_44 : decode cX12_atom 44 = .ok (.iload_n 1, 1) := dzr zhdX12_atom_44 0 rfl
theorem dX12_atom_45 : decode cX12_atom 45 = .ok (.invokestatic 139, 3) := dzr zhdX12_atom_44 1 rfl
theorem dX12_atom_48 : decode cX12_atom 48 = .ok (.invokevirtual 135, 3) := dzr zhdX12_atom_44 2 rfl
theorem dX12_atom_51 : decode cX12_atom 51 = .ok (.goto 38, 3) := dzr zhdX12_atom_44 3 rfl
theorem dX12_atom_54 : decode cX12_atom 54 = .ok (.iload_n 1, 1) := dzr zhdX12_atom_44 4 rfl
theorem dX12_atom_55 : decode cX12_atom 55 = .ok (.bipush 91, 2) := dzr zhdX12_atom_44 5 rfl
theorem dX12_atom_57 : decode cX12_atom 57 = .ok (.if_icmp .ne 28, 3) := dzr zhdX12_atom_44 6 rfl
theorem dX12_atom_60 : decode cX12_atom 60 = .ok (.aload_n 0, 1) := dzr zhdX12_atom_44 7 rfl
theorem dX12_atom_61 : decode cX12_atom 61 = .ok (.invokevirtual 143, 3) := dzr zhdX12_atom_44 8 rfl
theorem dX12_atom_64 : decode cX12_atom 64 = .ok (.aload_n 0, 1) := dzr zhdX12_atom_44 9 rfl
theorem dX12_atom_65 : decode cX12_atom 65 = .ok (.getfield 113, 3) := dzr zhdX12_atom_44 10 rfl
theorem dX12_atom_68 : decode cX12_atom 68 = .ok (.iconst (-1), 1) := dzr zhdX12_atom_44 11 rfl
theorem dX12_atom_69 : decode cX12_atom 69 = .ok (.if_icmp .ne 20, 3) := dzr zhdX12_atom_44 12 rfl
theorem dX12_atom_72 : decode cX12_atom 72 = .ok (.aload_n 0, 1) := dzr zhdX12_atom_44 13 rfl
theorem dX12_atom_73 : decode cX12_atom 73 = .ok (.invokevirtual 146, 3) := dzr zhdX12_atom_44 14 rfl
theorem dX12_atom_76 : decode cX12_atom 76 = .ok (.aload_n 0, 1) := dzr zhdX12_atom_44 15 rfl
theorem dX12_atom_77 : decode cX12_atom 77 = .ok (.bipush 93, 2) := dzr zhdX12_atom_44 16 rfl
theorem dX12_atom_79 : decode cX12_atom 79 = .ok (.invokevirtual 149, 3) := dzr zhdX12_atom_44 17 rfl
theorem dX12_atom_82 : decode cX12_atom 82 = .ok (.goto 7, 3) := dzr zhdX12_atom_44 18 rfl
theorem dX12_atom_85 : decode cX12_atom 85 = .ok (.aload_n 0, 1) := dzr zhdX12_atom_44 19 rfl
theorem dX12_atom_86 : decode cX12_atom 86 = .ok (.invokevirtual 122, 3) := dzr zhdX12_atom_44 20 rfl
theorem dX12_atom_89 : decode cX12_atom 89 = .ok (.return_, 1) := dzr zhdX12_atom_44 21 rfl
theorem ggX12_term_X12_atom : GoodIn wsX12_term wsX12_atom := (bg_up (bg_law (bi_wsL_law0_r19 _ (List.mem_of_getElem? (i := 3) rfl))))
theorem gX12_term_X12_atom : GoodIn wsX12_term (wsV RX12 153 RX12 yX12_atom wsX12_atom) := goodIn_app (bg_up (bg_cons (bi_wsL_law0_r19 _ (List.mem_of_getElem? (i := 12) rfl)) (bg_cons (bi_wsL_law0_r19 _ (List.mem_of_getElem? (i := 13) rfl)) (bg_cons (bi_wsL_law0_r19 _ (List.mem_of_getElem? (i := 14) rfl)) (bg_cons (bi_wsL_law0_r1 _ (List.mem_of_getElem? (i := 5) rfl)) bg_nil))))) (bg_up (bg_law (bi_wsL_law0_r19 _ (List.mem_of_getElem? (i := 3) rfl))))
theorem ggX12_term_X12_look : GoodIn wsX12_term wsX12_look := (bg_up (bg_law (bi_wsL_law0_r15 _ (List.mem_of_getElem? (i := 14) rfl))))
theorem gX12_term_X12_look : GoodIn wsX12_term (wsV RX12 125 RX12 yX12_look wsX12_look) := goodIn_app (bg_up (bg_cons (bi_wsL_law0_r15 _ (List.mem_of_getElem? (i := 11) rfl)) (bg_cons (bi_wsL_law0_r15 _ (List.mem_of_getElem? (i := 12) rfl)) (bg_cons (bi_wsL_law0_r15 _ (List.mem_of_getElem? (i := 13) rfl)) (bg_cons (bi_wsL_law0_r1 _ (List.mem_of_getElem? (i := 5) rfl)) bg_nil))))) (bg_up (bg_law (bi_wsL_law0_r15 _ (List.mem_of_getElem? (i := 14) rfl))))
theorem ggX12_term_X12_put : GoodIn wsX12_term wsX12_put := (bg_up (bg_law (bi_wsL_law0_r18 _ (List.mem_of_getElem? (i := 9) rfl))))
theorem gX12_term_X12_put : GoodIn wsX12_term (wsV RX12 135 RX12 yX12_put wsX12_put) := goodIn_app (bg_up (bg_cons (bi_wsL_law0_r18 _ (List.mem_of_getElem? (i := 6) rfl)) (bg_cons (bi_wsL_law0_r18 _ (List.mem_of_getElem? (i := 7) rfl)) (bg_cons (bi_wsL_law0_r18 _ (List.mem_of_getElem? (i := 8) rfl)) (bg_cons (bi_wsL_law0_r1 _ (List.mem_of_getElem? (i := 5) rfl)) bg_nil))))) (bg_up (bg_law (bi_wsL_law0_r18 _ (List.mem_of_getElem? (i := 9) rfl))))
def ztdX12_term_0 : List (Nat × Instr × Nat) := [(0, .aload_n 0, 1), (1, .invokevirtual 153, 3), (4, .aload_n 0, 1), (5, .getfield 113, 3), (8, .iconst (-1), 1), (9, .if_icmp .ne 10, 3), (12, .aload_n 0, 1), (13, .invokevirtual 125, 3), (16, .goto 4, 3), (19, .iconst (-1), 1), (20, .istore_n 1, 1), (21, .iload_n 1, 1), (22, .bipush 42, 2), (24, .if_icmp .eq 9, 3), (27, .iload_n 1, 1), (28, .bipush 47, 2), (30, .if_icmp .ne 53, 3), (33, .aload_n 0, 1), (34, .dup, 1), (35, .getfield 106, 3), (38, .iconst 1, 1), (39, .iadd, 1), (40, .putfield 106, 3), (43, .aload_n 0, 1)]
theorem zhdX12_term_0 : dzC ztdX12_term_0 0 (cX12_term.data.toList.drop 0) = true := by decide +kernel
theorem dX12_term_0 : decode cX12_term 0 = .ok (.aload_n 0, 1) := dzr zhdX12_term_0 0 rfl
theorem dX12_term_1 : decode cX12_term 1 = .ok (.invokevirtual 153, 3) := dzr zhdX12_term_0 1 rfl
theorem dX12_term_4 : decode cX12_term 4 = .ok (.aload_n 0, 1) := dzr zhdX12_term_0 2 rfl
theorem dX12_term_5 : decode cX12_term 5 = .ok (.getfield 113, 3) := dzr zhdX12_term_0 3 rfl
theorem dX12_term_8 : decode cX12_term 8 = .ok (.iconst (-1), 1) := dzr zhdX12_term_0 4 rfl
theorem dX12_term_9 : decode cX12_term 9 = .ok (.if_icmp .ne 10, 3) := dzr zhdX12_term_0 5 rfl
theorem dX12_term_12 : decode cX12_term 12 = .ok (.aload_n 0, 1) := dzr zhdX12_term_0 6 rfl
theorem dX12_term_13 : decode cX12_term 13 = .ok (.invokevirtual 125, 3) := dzr zhdX12_term_0 7 rfl
theorem dX12_term_16 : decode cX12_term 16 = .ok (.goto 4, 3) := dzr zhdX12_term_0 8 rfl
theorem dX12_term_19 : decode cX12_term 19 = .ok (.iconst (-1), 1) := dzr zhdX12_term_0 9 rfl
theorem dX12_term_20 : decode cX12_term 20 = .ok (.istore_n 1, 1) := dzr zhdX12_term_0 10 rfl
theorem dX12_term_21 : decode cX12_term 21 = .ok (.iload_n 1, 1) := dzr zhdX12_term_0 11 rfl
theorem dX12_term_22 : decode cX12_term 22 = .ok (.bipush 42, 2) := dzr zhdX12_term_0 12 rfl
theorem dX12_term_24 : decode cX12_term 24 = .ok (.if_icmp .eq 9, 3) := dzr zhdX12_term_0 13 rfl
theorem dX12_term_27 : decode cX12_term 27 = .ok (.iload_n 1, 1) := dzr zhdX12_term_0 14 rfl
theorem dX12_term_28 : decode cX12_term 28 = .ok (.bipush 47, 2) := dzr zhdX12_term_0 15 rfl
theorem dX12_term_30 : decode cX12_term 30 = .ok (.if_icmp .ne 53, 3) := dzr zhdX12_term_0 16 rfl
theorem dX12_term_33 : decode cX12_term 33 = .ok (.aload_n 0, 1) := dzr zhdX12_term_0 17 rfl
theorem dX12_term_34 : decode cX12_term 34 = .ok (.dup, 1) := dzr zhdX12_term_0 18 rfl
theorem dX12_term_35 : decode cX12_term 35 = .ok (.getfield 106, 3) := dzr zhdX12_term_0 19 rfl
theorem dX12_term_38 : decode cX12_term 38 = .ok (.iconst 1, 1) := dzr zhdX12_term_0 20 rfl
theorem dX12_term_39 : decode cX12_term 39 = .ok (.iadd, 1) := dzr zhdX12_term_0 21 rfl
theorem dX12_term_40 : decode cX12_term 40 = .ok (.putfield 106, 3) := dzr zhdX12_term_0 22 rfl
theorem dX12_term_43 : decode cX12_term 43 = .ok (.aload_n 0, 1) := dzr zhdX12_term_0 23 rfl
def ztdX12_term_44 : List (Nat × Instr × Nat) := [(44, .invokevirtual 153, 3), (47, .aload_n 0, 1), (48, .iload_n 1, 1), (49, .bipush 42, 2), (51, .if_icmp .ne 7, 3), (54, .iconst 4, 1), (55, .goto 4, 3), (58, .iconst 5, 1), (59, .iconst 0, 1), (60, .invokevirtual 135, 3), (63, .aload_n 0, 1), (64, .getfield 113, 3), (67, .iconst (-1), 1), (68, .if_icmp .ne 10, 3), (71, .aload_n 0, 1), (72, .invokevirtual 125, 3), (75, .goto 4, 3), (78, .iconst (-1), 1), (79, .istore_n 1, 1), (80, .goto (-59), 3), (83, .return_, 1)]
theorem zhdX12_term_44 : dzC ztdX12_term_44 44 (cX12_term.data.toList.drop 44) = true := by decide +kernel
theorem dX12_term_44 : decode cX12_term 44 = .ok (.invokevirtual 153, 3) := dzr zhdX12_term_44 0 rfl
theorem dX12_term_47 : decode cX12_term 47 = .ok (.aload_n 0, 1) := dzr zhdX12_term_44 1 rfl
theorem dX12_term_48 : decode cX12_term 48 = .ok (.iload_n 1, 1) := dzr zhdX12_term_44 2 rfl
theorem dX12_term_49 : decode cX12_term 49 = .ok (.bipush 42, 2) := dzr zhdX12_term_44 3 rfl
theorem dX12_term_51 : decode cX12_term 51 = .ok (.if_icmp .ne 7, 3) := dzr zhdX12_term_44 4 rfl
theorem dX12_term_54 : decode cX12_term 54 = .ok (.iconst 4, 1) := dzr zhdX12_term_44 5 rfl
theorem dX12_term_55 : decode cX12_term 55 = .ok (.goto 4, 3) := dzr zhdX12_term_44 6 rfl
theorem dX12_term_58 : decode cX12_term 58 = .ok (.iconst 5, 1) := dzr zhdX12_term_44 7 rfl
theorem dX12_term_59 : decode cX12_term 59 = .ok (.iconst 0, 1) := dzr zhdX12_term_44 8 rfl
theorem dX12_term_60 : decode cX12_term 60 = .ok (.invokevirtual 135, 3) := dzr zhdX12_term_44 9 rfl
theorem dX12_term_63 : decode cX12_term 63 = .ok (.aload_n 0, 1) := dzr zhdX12_term_44 10 rfl
theorem dX12_term_64 : decode cX12_term 64 = .ok (.getfield 113, 3) := dzr zhdX12_term_44 11 rfl
theorem dX12_term_67 : decode cX12_term 67 = .ok (.iconst (-1), 1) := dzr zhdX12_term_44 12 rfl
theorem dX12_term_68 : decode cX12_term 68 = .ok (.if_icmp .ne 10, 3) := dzr zhdX12_term_44 13 rfl
theorem dX12_term_71 : decode cX12_term 71 = .ok (.aload_n 0, 1) := dzr zhdX12_term_44 14 rfl
theorem dX12_term_72 : decode cX12_term 72 = .ok (.invokevirtual 125, 3) := dzr zhdX12_term_44 15 rfl
theorem dX12_term_75 : decode cX12_term 75 = .ok (.goto 4, 3) := dzr zhdX12_term_44 16 rfl
theorem dX12_term_78 : decode cX12_term 78 = .ok (.iconst (-1), 1) := dzr zhdX12_term_44 17 rfl
theorem dX12_term_79 : decode cX12_term 79 = .ok (.istore_n 1, 1) := dzr zhdX12_term_44 18 rfl
theorem dX12_term_80 : decode cX12_term 80 = .ok (.goto (-59), 3) := dzr zhdX12_term_44 19 rfl
theorem dX12_term_83 : decode cX12_term 83 = .ok (.return_, 1) := dzr zhdX12_term_44 20 rfl
theorem ggX12_sum_X12_term : GoodIn wsX12_sum wsX12_term := (bg_up (bg_law (bi_wsL_law0_r19 _ (List.mem_of_getElem? (i := 11) rfl))))
theorem gX12_sum_X12_term : GoodIn wsX12_sum (wsV RX12 156 RX12 yX12_term wsX12_term) := goodIn_app (bg_up (bg_cons (bi_wsL_law0_r19 _ (List.mem_of_getElem? (i := 0) rfl)) (bg_cons (bi_wsL_law0_r19 _ (List.mem_of_getElem? (i := 1) rfl)) (bg_cons (bi_wsL_law0_r19 _ (List.mem_of_getElem? (i := 2) rfl)) (bg_cons (bi_wsL_law0_r1 _ (List.mem_of_getElem? (i := 5) rfl)) bg_nil))))) (bg_up (bg_law (bi_wsL_law0_r19 _ (List.mem_of_getElem? (i := 11) rfl))))
theorem ggX12_sum_X12_look : GoodIn wsX12_sum wsX12_look := (bg_up (bg_law (bi_wsL_law0_r15 _ (List.mem_of_getElem? (i := 14) rfl))))
theorem gX12_sum_X12_look : GoodIn wsX12_sum (wsV RX12 125 RX12 yX12_look wsX12_look) := goodIn_app (bg_up (bg_cons (bi_wsL_law0_r15 _ (List.mem_of_getElem? (i := 11) rfl)) (bg_cons (bi_wsL_law0_r15 _ (List.mem_of_getElem? (i := 12) rfl)) (bg_cons (bi_wsL_law0_r15 _ (List.mem_of_getElem? (i := 13) rfl)) (bg_cons (bi_wsL_law0_r1 _ (List.mem_of_getElem? (i := 5) rfl)) bg_nil))))) (bg_up (bg_law (bi_wsL_law0_r15 _ (List.mem_of_getElem? (i := 14) rfl))))
theorem ggX12_sum_X12_put : GoodIn wsX12_sum wsX12_put := (bg_up (bg_law (bi_wsL_law0_r18 _ (List.mem_of_getElem? (i := 9) rfl))))
theorem gX12_sum_X12_put : GoodIn wsX12_sum (wsV RX12 135 RX12 yX12_put wsX12_put) := goodIn_app (bg_up (bg_cons (bi_wsL_law0_r18 _ (List.mem_of_getElem? (i := 6) rfl)) (bg_cons (bi_wsL_law0_r18 _ (List.mem_of_getElem? (i := 7) rfl)) (bg_cons (bi_wsL_law0_r18 _ (List.mem_of_getElem? (i := 8) rfl)) (bg_cons (bi_wsL_law0_r1 _ (List.mem_of_getElem? (i := 5) rfl)) bg_nil))))) (bg_up (bg_law (bi_wsL_law0_r18 _ (List.mem_of_getElem? (i := 9) rfl))))
def ztdX12_sum_0 : List (Nat × Instr × Nat) := [(0, .aload_n 0, 1), (1, .invokevirtual 156, 3), (4, .aload_n 0, 1), (5, .getfield 113, 3), (8, .iconst (-1), 1), (9, .if_icmp .ne 10, 3), (12, .aload_n 0, 1), (13, .invokevirtual 125, 3), (16, .goto 4, 3), (19, .iconst (-1), 1), (20, .istore_n 1, 1), (21, .iload_n 1, 1), (22, .bipush 43, 2), (24, .if_icmp .eq 9, 3), (27, .iload_n 1, 1), (28, .bipush 45, 2), (30, .if_icmp .ne 53, 3), (33, .aload_n 0, 1), (34, .dup, 1), (35, .getfield 106, 3), (38, .iconst 1, 1), (39, .iadd, 1), (40, .putfield 106, 3), (43, .aload_n 0, 1)]
theorem zhdX12_sum_0 : dzC ztdX12_sum_0 0 (cX12_sum.data.toList.drop 0) = true := by decide +kernel
theorem dX12_sum_0 : decode cX12_sum 0 = .ok (.aload_n 0, 1) := dzr zhdX12_sum_0 0 rfl
theorem dX12_sum_1 : decode cX12_sum 1 = .ok (.invokevirtual 156, 3) := dzr zhdX12_sum_0 1 rfl
theorem dX12_sum_4 : decode cX12_sum 4 = .ok (.aload_n 0, 1) := dzr zhdX12_sum_0 2 rfl
theorem dX12_sum_5 : decode cX12_sum 5 = .ok (.getfield 113, 3) := dzr zhdX12_sum_0 3 rfl
theorem dX12_sum_8 : decode cX12_sum 8 = .ok (.iconst (-1), 1) := dzr zhdX12_sum_0 4 rfl
theorem dX12_sum_9 : decode cX12_sum 9 = .ok (.if_icmp .ne 10, 3) := dzr zhdX12_sum_0 5 rfl
theorem dX12_sum_12 : decode cX12_sum 12 = .ok (.aload_n 0, 1) := dzr zhdX12_sum_0 6 rfl
theorem dX12_sum_13 : decode cX12_sum 13 = .ok (.invokevirtual 125, 3) := dzr zhdX12_sum_0 7 rfl
theorem dX12_sum_16 : decode cX12_sum 16 = .ok (.goto 4, 3) := dzr zhdX12_sum_0 8 rfl
theorem dX12_sum_19 : decode cX12_sum 19 = .ok (.iconst (-1), 1) := dzr zhdX12_sum_0 9 rfl
theorem dX12_sum_20 : decode cX12_sum 20 = .ok (.istore_n 1, 1) := dzr zhdX12_sum_0 10 rfl
theorem dX12_sum_21 : decode cX12_sum 21 = .ok (.iload_n 1, 1) := dzr zhdX12_sum_0 11 rfl
theorem dX12_sum_22 : decode cX12_sum 22 = .ok (.bipush 43, 2) := dzr zhdX12_sum_0 12 rfl
theorem dX12_sum_24 : decode cX12_sum 24 = .ok (.if_icmp .eq 9, 3) := dzr zhdX12_sum_0 13 rfl
theorem dX12_sum_27 : decode cX12_sum 27 = .ok (.iload_n 1, 1) := dzr zhdX12_sum_0 14 rfl
theorem dX12_sum_28 : decode cX12_sum 28 = .ok (.bipush 45, 2) := dzr zhdX12_sum_0 15 rfl
theorem dX12_sum_30 : decode cX12_sum 30 = .ok (.if_icmp .ne 53, 3) := dzr zhdX12_sum_0 16 rfl
theorem dX12_sum_33 : decode cX12_sum 33 = .ok (.aload_n 0, 1) := dzr zhdX12_sum_0 17 rfl
theorem dX12_sum_34 : decode cX12_sum 34 = .ok (.dup, 1) := dzr zhdX12_sum_0 18 rfl
theorem dX12_sum_35 : decode cX12_sum 35 = .ok (.getfield 106, 3) := dzr zhdX12_sum_0 19 rfl
theorem dX12_sum_38 : decode cX12_sum 38 = .ok (.iconst 1, 1) := dzr zhdX12_sum_0 20 rfl
theorem dX12_sum_39 : decode cX12_sum 39 = .ok (.iadd, 1) := dzr zhdX12_sum_0 21 rfl
theorem dX12_sum_40 : decode cX12_sum 40 = .ok (.putfield 106, 3) := dzr zhdX12_sum_0 22 rfl
theorem dX12_sum_43 : decode cX12_sum 43 = .ok (.aload_n 0, 1) := dzr zhdX12_sum_0 23 rfl
def ztdX12_sum_44 : List (Nat × Instr × Nat) := [(44, .invokevirtual 156, 3), (47, .aload_n 0, 1), (48, .iload_n 1, 1), (49, .bipush 43, 2), (51, .if_icmp .ne 7, 3), (54, .iconst 2, 1), (55, .goto 4, 3), (58, .iconst 3, 1), (59, .iconst 0, 1), (60, .invokevirtual 135, 3), (63, .aload_n 0, 1), (64, .getfield 113, 3), (67, .iconst (-1), 1), (68, .if_icmp .ne 10, 3), (71, .aload_n 0, 1), (72, .invokevirtual 125, 3), (75, .goto 4, 3), (78, .iconst (-1), 1), (79, .istore_n 1, 1), (80, .goto (-59), 3), (83, .return_, 1)]
theorem zhdX12_sum_44 : dzC ztdX12_sum_44 44 (cX12_sum.data.toList.drop 44) = true := by decide +kernel
theorem dX12_sum_44 : decode cX12_sum 44 = .ok (.invokevirtual 156, 3) := dzr zhdX12_sum_44 0 rfl
theorem dX12_sum_47 : decode cX12_sum 47 = .ok (.aload_n 0, 1) := dzr zhdX12_sum_44 1 rfl
theorem dX12_sum_48 : decode cX12_sum 48 = .ok (.iload_n 1, 1) := dzr zhdX12_sum_44 2 rfl
theorem dX12_sum_49 : decode cX12_sum 49 = .ok (.bipush 43, 2) := dzr zhdX12_sum_44 3 rfl
theorem dX12_sum_51 : decode cX12_sum 51 = .ok (.if_icmp .ne 7, 3) := dzr zhdX12_sum_44 4 rfl
theorem dX12_sum_54 : decode cX12_sum 54 = .ok (.iconst 2, 1) := dzr zhdX12_sum_44 5 rfl
theorem dX12_sum_55 : decode cX12_sum 55 = .ok (.goto 4, 3) := dzr zhdX12_sum_44 6 rfl
theorem dX12_sum_58 : decode cX12_sum 58 = .ok (.iconst 3, 1) := dzr zhdX12_sum_44 7 rfl
theorem dX12_sum_59 : decode cX12_sum 59 = .ok (.iconst 0, 1) := dzr zhdX12_sum_44 8 rfl
theorem dX12_sum_60 : decode cX12_sum 60 = .ok (.invokevirtual 135, 3) := dzr zhdX12_sum_44 9 rfl
theorem dX12_sum_63 : decode cX12_sum 63 = .ok (.aload_n 0, 1) := dzr zhdX12_sum_44 10 rfl
theorem dX12_sum_64 : decode cX12_sum 64 = .ok (.getfield 113, 3) := dzr zhdX12_sum_44 11 rfl
theorem dX12_sum_67 : decode cX12_sum 67 = .ok (.iconst (-1), 1) := dzr zhdX12_sum_44 12 rfl
theorem dX12_sum_68 : decode cX12_sum 68 = .ok (.if_icmp .ne 10, 3) := dzr zhdX12_sum_44 13 rfl
theorem dX12_sum_71 : decode cX12_sum 71 = .ok (.aload_n 0, 1) := dzr zhdX12_sum_44 14 rfl
theorem dX12_sum_72 : decode cX12_sum 72 = .ok (.invokevirtual 125, 3) := dzr zhdX12_sum_44 15 rfl
theorem dX12_sum_75 : decode cX12_sum 75 = .ok (.goto 4, 3) := dzr zhdX12_sum_44 16 rfl
theorem dX12_sum_78 : decode cX12_sum 78 = .ok (.iconst (-1), 1) := dzr zhdX12_sum_44 17 rfl
theorem dX12_sum_79 : decode cX12_sum 79 = .ok (.istore_n 1, 1) := dzr zhdX12_sum_44 18 rfl
theorem dX12_sum_80 : decode cX12_sum 80 = .ok (.goto (-59), 3) := dzr zhdX12_sum_44 19 rfl
theorem dX12_sum_83 : decode cX12_sum 83 = .ok (.return_, 1) := dzr zhdX12_sum_44 20 rfl
def ztdX12_isSign_0 : List (Nat × Instr × Nat) := [(0, .iload_n 0, 1), (1, .bipush 61, 2), (3, .if_icmp .eq 15, 3), (6, .iload_n 0, 1), (7, .bipush 60, 2), (9, .if_icmp .eq 9, 3), (12, .iload_n 0, 1), (13, .bipush 62, 2), (15, .if_icmp .ne 7, 3), (18, .iconst 1, 1), (19, .goto 4, 3), (22, .iconst 0, 1), (23, .ireturn, 1)]
theorem zhdX12_isSign_0 : dzC ztdX12_isSign_0 0 (cX12_isSign.data.toList.drop 0) = true := by decide +kernel
theorem dX12_isSign_0 : decode cX12_isSign 0 = .ok (.iload_n 0, 1) := dzr zhdX12_isSign_0 0 rfl
theorem dX12_isSign_1 : decode cX12_isSign 1 = .ok (.bipush 61, 2) := dzr zhdX12_isSign_0 1 rfl
theorem dX12_isSign_3 : decode cX12_isSign 3 = .ok (.if_icmp .eq 15, 3) := dzr zhdX12_isSign_0 2 rfl
theorem dX12_isSign_6 : decode cX12_isSign 6 = .ok (.iload_n 0, 1) := dzr zhdX12_isSign_0 3 rfl
theorem dX12_isSign_7 : decode cX12_isSign 7 = .ok (.bipush 60, 2) := dzr zhdX12_isSign_0 4 rfl
theorem dX12_isSign_9 : decode cX12_isSign 9 = .ok (.if_icmp .eq 9, 3) := dzr zhdX12_isSign_0 5 rfl
theorem dX12_isSign_12 : decode cX12_isSign 12 = .ok (.iload_n 0, 1) := dzr zhdX12_isSign_0 6 rfl
theorem dX12_isSign_13 : decode cX12_isSign 13 = .ok (.bipush 62, 2) := dzr zhdX12_isSign_0 7 rfl
theorem dX12_isSign_15 : decode cX12_isSign 15 = .ok (.if_icmp .ne 7, 3) := dzr zhdX12_isSign_0 8 rfl
theorem dX12_isSign_18 : decode cX12_isSign 18 = .ok (.iconst 1, 1) := dzr zhdX12_isSign_0 9 rfl
theorem dX12_isSign_19 : decode cX12_isSign 19 = .ok (.goto 4, 3) := dzr zhdX12_isSign_0 10 rfl
theorem dX12_isSign_22 : decode cX12_isSign 22 = .ok (.iconst 0, 1) := dzr zhdX12_isSign_0 11 rfl
theorem dX12_isSign_23 : decode cX12_isSign 23 = .ok (.ireturn, 1) := dzr zhdX12_isSign_0 12 rfl
theorem ggX12_compare_X12_look : GoodIn wsX12_compare wsX12_look := (bg_up (bg_law (bi_wsL_law0_r15 _ (List.mem_of_getElem? (i := 14) rfl))))
theorem gX12_compare_X12_look : GoodIn wsX12_compare (wsV RX12 125 RX12 yX12_look wsX12_look) := goodIn_app (bg_up (bg_cons (bi_wsL_law0_r15 _ (List.mem_of_getElem? (i := 11) rfl)) (bg_cons (bi_wsL_law0_r15 _ (List.mem_of_getElem? (i := 12) rfl)) (bg_cons (bi_wsL_law0_r15 _ (List.mem_of_getElem? (i := 13) rfl)) (bg_cons (bi_wsL_law0_r1 _ (List.mem_of_getElem? (i := 5) rfl)) bg_nil))))) (bg_up (bg_law (bi_wsL_law0_r15 _ (List.mem_of_getElem? (i := 14) rfl))))
theorem ggX12_compare_X12_isSign : GoodIn wsX12_compare wsX12_isSign := (bg_up (bg_law (bi_wsL_law0_r19 _ (List.mem_of_getElem? (i := 21) rfl))))
theorem gX12_compare_X12_isSign : GoodIn wsX12_compare (va_wsS RX12 159 yX12_isSign wsX12_isSign) := goodIn_app (bg_up (bg_cons (bi_wsL_law0_r19 _ (List.mem_of_getElem? (i := 19) rfl)) (bg_cons (bi_wsL_law0_r19 _ (List.mem_of_getElem? (i := 20) rfl)) (bg_cons (bi_wsL_law0_r1 _ (List.mem_of_getElem? (i := 5) rfl)) bg_nil)))) (bg_up (bg_law (bi_wsL_law0_r19 _ (List.mem_of_getElem? (i := 21) rfl))))
theorem ggX12_compare_X12_bad : GoodIn wsX12_compare wsX12_bad := (bg_up (bg_law (bi_wsL_law0_r16 _ (List.mem_of_getElem? (i := 18) rfl))))
theorem gX12_compare_X12_bad : GoodIn wsX12_compare (wsV RX12 122 RX12 yX12_bad wsX12_bad) := goodIn_app (bg_up (bg_cons (bi_wsL_law0_r16 _ (List.mem_of_getElem? (i := 15) rfl)) (bg_cons (bi_wsL_law0_r16 _ (List.mem_of_getElem? (i := 16) rfl)) (bg_cons (bi_wsL_law0_r16 _ (List.mem_of_getElem? (i := 17) rfl)) (bg_cons (bi_wsL_law0_r1 _ (List.mem_of_getElem? (i := 5) rfl)) bg_nil))))) (bg_up (bg_law (bi_wsL_law0_r16 _ (List.mem_of_getElem? (i := 18) rfl))))
theorem ggX12_compare_X12_sum : GoodIn wsX12_compare wsX12_sum := (bg_up (bg_law (bi_wsL_law0_r18 _ (List.mem_of_getElem? (i := 23) rfl))))
theorem gX12_compare_X12_sum : GoodIn wsX12_compare (wsV RX12 146 RX12 yX12_sum wsX12_sum) := goodIn_app (bg_up (bg_cons (bi_wsL_law0_r18 _ (List.mem_of_getElem? (i := 20) rfl)) (bg_cons (bi_wsL_law0_r18 _ (List.mem_of_getElem? (i := 21) rfl)) (bg_cons (bi_wsL_law0_r18 _ (List.mem_of_getElem? (i := 22) rfl)) (bg_cons (bi_wsL_law0_r1 _ (List.mem_of_getElem? (i := 5) rfl)) bg_nil))))) (bg_up (bg_law (bi_wsL_law0_r18 _ (List.mem_of_getElem? (i := 23) rfl))))
theorem ggX12_compare_X12_put : GoodIn wsX12_compare wsX12_put := (bg_up (bg_law (bi_wsL_law0_r18 _ (List.mem_of_getElem? (i := 9) rfl))))
theorem gX12_compare_X12_put : GoodIn wsX12_compare (wsV RX12 135 RX12 yX12_put wsX12_put) := goodIn_app (bg_up (bg_cons (bi_wsL_law0_r18 _ (List.mem_of_getElem? (i := 6) rfl)) (bg_cons (bi_wsL_law0_r18 _ (List.mem_of_getElem? (i := 7) rfl)) (bg_cons (bi_wsL_law0_r18 _ (List.mem_of_getElem? (i := 8) rfl)) (bg_cons (bi_wsL_law0_r1 _ (List.mem_of_getElem? (i := 5) rfl)) bg_nil))))) (bg_up (bg_law (bi_wsL_law0_r18 _ (List.mem_of_getElem? (i := 9) rfl))))
def ztdX12_compare_0 : List (Nat × Instr × Nat) := [(0, .aload_n 0, 1), (1, .getfield 113, 3), (4, .iconst (-1), 1), (5, .if_icmp .ne 10, 3), (8, .aload_n 0, 1), (9, .invokevirtual 125, 3), (12, .goto 4, 3), (15, .iconst (-1), 1), (16, .istore_n 1, 1), (17, .iload_n 1, 1), (18, .invokestatic 159, 3), (21, .ifCond .ne 8, 3), (24, .aload_n 0, 1), (25, .invokevirtual 122, 3), (28, .return_, 1), (29, .aload_n 0, 1), (30, .dup, 1), (31, .getfield 106, 3), (34, .iconst 1, 1), (35, .iadd, 1), (36, .putfield 106, 3), (39, .aload_n 0, 1), (40, .invokevirtual 146, 3), (43, .aload_n 0, 1)]
theorem zhdX12_compare_0 : dzC ztdX12_compare_0 0 (cX12_compare.data.toList.drop 0) = true := by decide +kernel
theorem dX12_compare_0 : decode cX12_compare 0 = .ok (.aload_n 0, 1) := dzr zhdX12_compare_0 0 rfl
theorem dX12_compare_1 : decode cX12_compare 1 = .ok (.getfield 113, 3) := dzr zhdX12_compare_0 1 rfl
theorem dX12_compare_4 : decode cX12_compare 4 = .ok (.iconst (-1), 1) := dzr zhdX12_compare_0 2 rfl
theorem dX12_compare_5 : decode cX12_compare 5 = .ok (.if_icmp .ne 10, 3) := dzr zhdX12_compare_0 3 rfl
theorem dX12_compare_8 : decode cX12_compare 8 = .ok (.aload_n 0, 1) := dzr zhdX12_compare_0 4 rfl
theorem dX12_compare_9 : decode cX12_compare 9 = .ok (.invokevirtual 125, 3) := dzr zhdX12_compare_0 5 rfl
theorem dX12_compare_12 : decode cX12_compare 12 = .ok (.goto 4, 3) := dzr zhdX12_compare_0 6 rfl
theorem dX12_compare_15 : decode cX12_compare 15 = .ok (.iconst (-1), 1) := dzr zhdX12_compare_0 7 rfl
theorem dX12_compare_16 : decode cX12_compare 16 = .ok (.istore_n 1, 1) := dzr zhdX12_compare_0 8 rfl
theorem dX12_compare_17 : decode cX12_compare 17 = .ok (.iload_n 1, 1) := dzr zhdX12_compare_0 9 rfl
theorem dX12_compare_18 : decode cX12_compare 18 = .ok (.invokestatic 159, 3) := dzr zhdX12_compare_0 10 rfl
theorem dX12_compare_21 : decode cX12_compare 21 = .ok (.ifCond .ne 8, 3) := dzr zhdX12_compare_0 11 rfl
theorem dX12_compare_24 : decode cX12_compare 24 = .ok (.aload_n 0, 1) := dzr zhdX12_compare_0 12 rfl
theorem dX12_compare_25 : decode cX12_compare 25 = .ok (.invokevirtual 122, 3) := dzr zhdX12_compare_0 13 rfl
theorem dX12_compare_28 : decode cX12_compare 28 = .ok (.return_, 1) := dzr zhdX12_compare_0 14 rfl
theorem dX12_compare_29 : decode cX12_compare 29 = .ok (.aload_n 0, 1) := dzr zhdX12_compare_0 15 rfl
theorem dX12_compare_30 : decode cX12_compare 30 = .ok (.dup, 1) := dzr zhdX12_compare_0 16 rfl
theorem dX12_compare_31 : decode cX12_compare 31 = .ok (.getfield 106, 3) := dzr zhdX12_compare_0 17 rfl
theorem dX12_compare_34 : decode cX12_compare 34 = .ok (.iconst 1, 1) := dzr zhdX12_compare_0 18 rfl
theorem dX12_compare_35 : decode cX12_compare 35 = .ok (.iadd, 1) := dzr zhdX12_compare_0 19 rfl
theorem dX12_compare_36 : decode cX12_compare 36 = .ok (.putfield 106, 3) := dzr zhdX12_compare_0 20 rfl
theorem dX12_compare_39 : decode cX12_compare 39 = .ok (.aload_n 0, 1) := dzr zhdX12_compare_0 21 rfl
theorem dX12_compare_40 : decode cX12_compare 40 = .ok (.invokevirtual 146, 3) := dzr zhdX12_compare_0 22 rfl
theorem dX12_compare_43 : decode cX12_compare 43 = .ok (.aload_n 0, 1) := dzr zhdX12_compare_0 23 rfl
def ztdX12_compare_44 : List (Nat × Instr × Nat) := [(44, .iload_n 1, 1), (45, .bipush 61, 2), (47, .if_icmp .ne 8, 3), (50, .bipush 6, 2), (52, .goto 16, 3), (55, .iload_n 1, 1), (56, .bipush 60, 2), (58, .if_icmp .ne 8, 3), (61, .bipush 7, 2), (63, .goto 5, 3), (66, .bipush 8, 2), (68, .iconst 0, 1), (69, .invokevirtual 135, 3), (72, .return_, 1)]
theorem zhdX12_compare_44 : dzC ztdX12_compare_44 44 (cX12_compare.data.toList.drop 44) = true := by decide +kernel
theorem dX12_compare_44 : decode cX12_compare 44 = .ok (.iload_n 1, 1) := dzr zhdX12_compare_44 0 rfl
theorem dX12_compare_45 : decode cX12_compare 45 = .ok (.bipush 61, 2) := dzr zhdX12_compare_44 1 rfl
theorem dX12_compare_47 : decode cX12_compare 47 = .ok (.if_icmp .ne 8, 3) := dzr zhdX12_compare_44 2 rfl
theorem dX12_compare_50 : decode cX12_compare 50 = .ok (.bipush 6, 2) := dzr zhdX12_compare_44 3 rfl
theorem dX12_compare_52 : decode cX12_compare 52 = .ok (.goto 16, 3) := dzr zhdX12_compare_44 4 rfl
theorem dX12_compare_55 : decode cX12_compare 55 = .ok (.iload_n 1, 1) := dzr zhdX12_compare_44 5 rfl
theorem dX12_compare_56 : decode cX12_compare 56 = .ok (.bipush 60, 2) := dzr zhdX12_compare_44 6 rfl
theorem dX12_compare_58 : decode cX12_compare 58 = .ok (.if_icmp .ne 8, 3) := dzr zhdX12_compare_44 7 rfl
theorem dX12_compare_61 : decode cX12_compare 61 = .ok (.bipush 7, 2) := dzr zhdX12_compare_44 8 rfl
theorem dX12_compare_63 : decode cX12_compare 63 = .ok (.goto 5, 3) := dzr zhdX12_compare_44 9 rfl
theorem dX12_compare_66 : decode cX12_compare 66 = .ok (.bipush 8, 2) := dzr zhdX12_compare_44 10 rfl
theorem dX12_compare_68 : decode cX12_compare 68 = .ok (.iconst 0, 1) := dzr zhdX12_compare_44 11 rfl
theorem dX12_compare_69 : decode cX12_compare 69 = .ok (.invokevirtual 135, 3) := dzr zhdX12_compare_44 12 rfl
theorem dX12_compare_72 : decode cX12_compare 72 = .ok (.return_, 1) := dzr zhdX12_compare_44 13 rfl
theorem ggX12_unit_X12_look : GoodIn wsX12_unit wsX12_look := (bg_up (bg_law (bi_wsL_law0_r15 _ (List.mem_of_getElem? (i := 14) rfl))))
theorem gX12_unit_X12_look : GoodIn wsX12_unit (wsV RX12 125 RX12 yX12_look wsX12_look) := goodIn_app (bg_up (bg_cons (bi_wsL_law0_r15 _ (List.mem_of_getElem? (i := 11) rfl)) (bg_cons (bi_wsL_law0_r15 _ (List.mem_of_getElem? (i := 12) rfl)) (bg_cons (bi_wsL_law0_r15 _ (List.mem_of_getElem? (i := 13) rfl)) (bg_cons (bi_wsL_law0_r1 _ (List.mem_of_getElem? (i := 5) rfl)) bg_nil))))) (bg_up (bg_law (bi_wsL_law0_r15 _ (List.mem_of_getElem? (i := 14) rfl))))
theorem ggX12_unit_X12_opens : GoodIn wsX12_unit wsX12_opens := (bg_up (bg_law (bi_wsL_law0_r18 _ (List.mem_of_getElem? (i := 15) rfl))))
theorem gX12_unit_X12_opens : GoodIn wsX12_unit (wsV RX12 143 RX12 yX12_opens wsX12_opens) := goodIn_app (bg_up (bg_cons (bi_wsL_law0_r18 _ (List.mem_of_getElem? (i := 12) rfl)) (bg_cons (bi_wsL_law0_r18 _ (List.mem_of_getElem? (i := 13) rfl)) (bg_cons (bi_wsL_law0_r18 _ (List.mem_of_getElem? (i := 14) rfl)) (bg_cons (bi_wsL_law0_r1 _ (List.mem_of_getElem? (i := 5) rfl)) bg_nil))))) (bg_up (bg_law (bi_wsL_law0_r18 _ (List.mem_of_getElem? (i := 15) rfl))))
theorem ggX12_unit_X12_unit : GoodIn wsX12_unit wsX12_unit := (bg_up (bg_law (bi_wsL_law0_r18 _ (List.mem_of_getElem? (i := 11) rfl))))
theorem gX12_unit_X12_unit : GoodIn wsX12_unit (wsV RX12 162 RX12 yX12_unit wsX12_unit) := goodIn_app (bg_up (bg_cons (bi_wsL_law0_r17 _ (List.mem_of_getElem? (i := 20) rfl)) (bg_cons (bi_wsL_law0_r17 _ (List.mem_of_getElem? (i := 21) rfl)) (bg_cons (bi_wsL_law0_r17 _ (List.mem_of_getElem? (i := 22) rfl)) (bg_cons (bi_wsL_law0_r1 _ (List.mem_of_getElem? (i := 5) rfl)) bg_nil))))) (bg_up (bg_law (bi_wsL_law0_r18 _ (List.mem_of_getElem? (i := 11) rfl))))
theorem ggX12_unit_X12_put : GoodIn wsX12_unit wsX12_put := (bg_up (bg_law (bi_wsL_law0_r18 _ (List.mem_of_getElem? (i := 9) rfl))))
theorem gX12_unit_X12_put : GoodIn wsX12_unit (wsV RX12 135 RX12 yX12_put wsX12_put) := goodIn_app (bg_up (bg_cons (bi_wsL_law0_r18 _ (List.mem_of_getElem? (i := 6) rfl)) (bg_cons (bi_wsL_law0_r18 _ (List.mem_of_getElem? (i := 7) rfl)) (bg_cons (bi_wsL_law0_r18 _ (List.mem_of_getElem? (i := 8) rfl)) (bg_cons (bi_wsL_law0_r1 _ (List.mem_of_getElem? (i := 5) rfl)) bg_nil))))) (bg_up (bg_law (bi_wsL_law0_r18 _ (List.mem_of_getElem? (i := 9) rfl))))
theorem ggX12_unit_X12_condition : GoodIn wsX12_unit wsX12_condition := (bg_up (bg_law (bi_wsL_law0_r17 _ (List.mem_of_getElem? (i := 19) rfl))))
theorem gX12_unit_X12_condition : GoodIn wsX12_unit (wsV RX12 165 RX12 yX12_condition wsX12_condition) := goodIn_app (bg_up (bg_cons (bi_wsL_law0_r17 _ (List.mem_of_getElem? (i := 16) rfl)) (bg_cons (bi_wsL_law0_r17 _ (List.mem_of_getElem? (i := 17) rfl)) (bg_cons (bi_wsL_law0_r17 _ (List.mem_of_getElem? (i := 18) rfl)) (bg_cons (bi_wsL_law0_r1 _ (List.mem_of_getElem? (i := 5) rfl)) bg_nil))))) (bg_up (bg_law (bi_wsL_law0_r17 _ (List.mem_of_getElem? (i := 19) rfl))))
theorem ggX12_unit_X12_closes : GoodIn wsX12_unit wsX12_closes := (bg_up (bg_law (bi_wsL_law0_r18 _ (List.mem_of_getElem? (i := 19) rfl))))
theorem gX12_unit_X12_closes : GoodIn wsX12_unit (wsV RX12 149 RX12 yX12_closes wsX12_closes) := goodIn_app (bg_up (bg_cons (bi_wsL_law0_r18 _ (List.mem_of_getElem? (i := 16) rfl)) (bg_cons (bi_wsL_law0_r18 _ (List.mem_of_getElem? (i := 17) rfl)) (bg_cons (bi_wsL_law0_r18 _ (List.mem_of_getElem? (i := 18) rfl)) (bg_cons (bi_wsL_law0_r1 _ (List.mem_of_getElem? (i := 5) rfl)) bg_nil))))) (bg_up (bg_law (bi_wsL_law0_r18 _ (List.mem_of_getElem? (i := 19) rfl))))
theorem ggX12_unit_X12_sum : GoodIn wsX12_unit wsX12_sum := (bg_up (bg_law (bi_wsL_law0_r18 _ (List.mem_of_getElem? (i := 23) rfl))))
theorem gX12_unit_X12_sum : GoodIn wsX12_unit (wsV RX12 146 RX12 yX12_sum wsX12_sum) := goodIn_app (bg_up (bg_cons (bi_wsL_law0_r18 _ (List.mem_of_getElem? (i := 20) rfl)) (bg_cons (bi_wsL_law0_r18 _ (List.mem_of_getElem? (i := 21) rfl)) (bg_cons (bi_wsL_law0_r18 _ (List.mem_of_getElem? (i := 22) rfl)) (bg_cons (bi_wsL_law0_r1 _ (List.mem_of_getElem? (i := 5) rfl)) bg_nil))))) (bg_up (bg_law (bi_wsL_law0_r18 _ (List.mem_of_getElem? (i := 23) rfl))))
theorem ggX12_unit_X12_compare : GoodIn wsX12_unit wsX12_compare := (bg_up (bg_law (bi_wsL_law0_r19 _ (List.mem_of_getElem? (i := 18) rfl))))
theorem gX12_unit_X12_compare : GoodIn wsX12_unit (wsV RX12 168 RX12 yX12_compare wsX12_compare) := goodIn_app (bg_up (bg_cons (bi_wsL_law0_r19 _ (List.mem_of_getElem? (i := 15) rfl)) (bg_cons (bi_wsL_law0_r19 _ (List.mem_of_getElem? (i := 16) rfl)) (bg_cons (bi_wsL_law0_r19 _ (List.mem_of_getElem? (i := 17) rfl)) (bg_cons (bi_wsL_law0_r1 _ (List.mem_of_getElem? (i := 5) rfl)) bg_nil))))) (bg_up (bg_law (bi_wsL_law0_r19 _ (List.mem_of_getElem? (i := 18) rfl))))
def ztdX12_unit_0 : List (Nat × Instr × Nat) := [(0, .aload_n 0, 1), (1, .invokevirtual 125, 3), (4, .istore_n 1, 1), (5, .iload_n 1, 1), (6, .bipush 33, 2), (8, .if_icmp .ne 39, 3), (11, .aload_n 0, 1), (12, .invokevirtual 143, 3), (15, .aload_n 0, 1), (16, .getfield 113, 3), (19, .iconst (-1), 1), (20, .if_icmp .ne 74, 3), (23, .aload_n 0, 1), (24, .invokevirtual 162, 3), (27, .aload_n 0, 1), (28, .bipush 9, 2), (30, .iconst 0, 1), (31, .invokevirtual 135, 3), (34, .aload_n 0, 1), (35, .dup, 1), (36, .getfield 119, 3), (39, .iconst 1, 1), (40, .isub, 1), (41, .putfield 119, 3)]
theorem zhdX12_unit_0 : dzC ztdX12_unit_0 0 (cX12_unit.data.toList.drop 0) = true := by decide +kernel
theorem dX12_unit_0 : decode cX12_unit 0 = .ok (.aload_n 0, 1) := dzr zhdX12_unit_0 0 rfl
theorem dX12_unit_1 : decode cX12_unit 1 = .ok (.invokevirtual 125, 3) := dzr zhdX12_unit_0 1 rfl
theorem dX12_unit_4 : decode cX12_unit 4 = .ok (.istore_n 1, 1) := dzr zhdX12_unit_0 2 rfl
theorem dX12_unit_5 : decode cX12_unit 5 = .ok (.iload_n 1, 1) := dzr zhdX12_unit_0 3 rfl
theorem dX12_unit_6 : decode cX12_unit 6 = .ok (.bipush 33, 2) := dzr zhdX12_unit_0 4 rfl
theorem dX12_unit_8 : decode cX12_unit 8 = .ok (.if_icmp .ne 39, 3) := dzr zhdX12_unit_0 5 rfl
theorem dX12_unit_11 : decode cX12_unit 11 = .ok (.aload_n 0, 1) := dzr zhdX12_unit_0 6 rfl
theorem dX12_unit_12 : decode cX12_unit 12 = .ok (.invokevirtual 143, 3) := dzr zhdX12_unit_0 7 rfl
theorem dX12_unit_15 : decode cX12_unit 15 = .ok (.aload_n 0, 1) := dzr zhdX12_unit_0 8 rfl
theorem dX12_unit_16 : decode cX12_unit 16 = .ok (.getfield 113, 3) := dzr zhdX12_unit_0 9 rfl
theorem dX12_unit_19 : decode cX12_unit 19 = .ok (.iconst (-1), 1) := dzr zhdX12_unit_0 10 rfl
theorem dX12_unit_20 : decode cX12_unit 20 = .ok (.if_icmp .ne 74, 3) := dzr zhdX12_unit_0 11 rfl
theorem dX12_unit_23 : decode cX12_unit 23 = .ok (.aload_n 0, 1) := dzr zhdX12_unit_0 12 rfl
theorem dX12_unit_24 : decode cX12_unit 24 = .ok (.invokevirtual 162, 3) := dzr zhdX12_unit_0 13 rfl
theorem dX12_unit_27 : decode cX12_unit 27 = .ok (.aload_n 0, 1) := dzr zhdX12_unit_0 14 rfl
theorem dX12_unit_28 : decode cX12_unit 28 = .ok (.bipush 9, 2) := dzr zhdX12_unit_0 15 rfl
theorem dX12_unit_30 : decode cX12_unit 30 = .ok (.iconst 0, 1) := dzr zhdX12_unit_0 16 rfl
theorem dX12_unit_31 : decode cX12_unit 31 = .ok (.invokevirtual 135, 3) := dzr zhdX12_unit_0 17 rfl
theorem dX12_unit_34 : decode cX12_unit 34 = .ok (.aload_n 0, 1) := dzr zhdX12_unit_0 18 rfl
theorem dX12_unit_35 : decode cX12_unit 35 = .ok (.dup, 1) := dzr zhdX12_unit_0 19 rfl
theorem dX12_unit_36 : decode cX12_unit 36 = .ok (.getfield 119, 3) := dzr zhdX12_unit_0 20 rfl
theorem dX12_unit_39 : decode cX12_unit 39 = .ok (.iconst 1, 1) := dzr zhdX12_unit_0 21 rfl
theorem dX12_unit_40 : decode cX12_unit 40 = .ok (.isub, 1) := dzr zhdX12_unit_0 22 rfl
theorem dX12_unit_41 : decode cX12_unit 41 = .ok (.putfield 119, 3) := dzr zhdX12_unit_0 23 rfl
def ztdX12_unit_44 : List (Nat × Instr × Nat) := [(44, .goto 50, 3), (47, .iload_n 1, 1), (48, .bipush 40, 2), (50, .if_icmp .ne 28, 3), (53, .aload_n 0, 1), (54, .invokevirtual 143, 3), (57, .aload_n 0, 1), (58, .getfield 113, 3), (61, .iconst (-1), 1), (62, .if_icmp .ne 32, 3), (65, .aload_n 0, 1), (66, .invokevirtual 165, 3), (69, .aload_n 0, 1), (70, .bipush 41, 2), (72, .invokevirtual 149, 3), (75, .goto 19, 3), (78, .aload_n 0, 1), (79, .invokevirtual 146, 3), (82, .aload_n 0, 1), (83, .getfield 113, 3), (86, .iconst (-1), 1), (87, .if_icmp .ne 7, 3), (90, .aload_n 0, 1), (91, .invokevirtual 168, 3)]
theorem zhdX12_unit_44 : dzC ztdX12_unit_44 44 (cX12_unit.data.toList.drop 44) = true := by decide +kernel
theorem dX12_unit_44 : decode cX12_unit 44 = .ok (.goto 50, 3) := dzr zhdX12_unit_44 0 rfl
theorem dX12_unit_47 : decode cX12_unit 47 = .ok (.iload_n 1, 1) := dzr zhdX12_unit_44 1 rfl
theorem dX12_unit_48 : decode cX12_unit 48 = .ok (.bipush 40, 2) := dzr zhdX12_unit_44 2 rfl
theorem dX12_unit_50 : decode cX12_unit 50 = .ok (.if_icmp .ne 28, 3) := dzr zhdX12_unit_44 3 rfl
theorem dX12_unit_53 : decode cX12_unit 53 = .ok (.aload_n 0, 1) := dzr zhdX12_unit_44 4 rfl
theorem dX12_unit_54 : decode cX12_unit 54 = .ok (.invokevirtual 143, 3) := dzr zhdX12_unit_44 5 rfl
theorem dX12_unit_57 : decode cX12_unit 57 = .ok (.aload_n 0, 1) := dzr zhdX12_unit_44 6 rfl
theorem dX12_unit_58 : decode cX12_unit 58 = .ok (.getfield 113, 3) := dzr zhdX12_unit_44 7 rfl
theorem dX12_unit_61 : decode cX12_unit 61 = .ok (.iconst (-1), 1) := dzr zhdX12_unit_44 8 rfl
theorem dX12_unit_62 : decode cX12_unit 62 = .ok (.if_icmp .ne 32, 3) := dzr zhdX12_unit_44 9 rfl
theorem dX12_unit_65 : decode cX12_unit 65 = .ok (.aload_n 0, 1) := dzr zhdX12_unit_44 10 rfl
theorem dX12_unit_66 : decode cX12_unit 66 = .ok (.invokevirtual 165, 3) := dzr zhdX12_unit_44 11 rfl
theorem dX12_unit_69 : decode cX12_unit 69 = .ok (.aload_n 0, 1) := dzr zhdX12_unit_44 12 rfl
theorem dX12_unit_70 : decode cX12_unit 70 = .ok (.bipush 41, 2) := dzr zhdX12_unit_44 13 rfl
theorem dX12_unit_72 : decode cX12_unit 72 = .ok (.invokevirtual 149, 3) := dzr zhdX12_unit_44 14 rfl
theorem dX12_unit_75 : decode cX12_unit 75 = .ok (.goto 19, 3) := dzr zhdX12_unit_44 15 rfl
theorem dX12_unit_78 : decode cX12_unit 78 = .ok (.aload_n 0, 1) := dzr zhdX12_unit_44 16 rfl
theorem dX12_unit_79 : decode cX12_unit 79 = .ok (.invokevirtual 146, 3) := dzr zhdX12_unit_44 17 rfl
theorem dX12_unit_82 : decode cX12_unit 82 = .ok (.aload_n 0, 1) := dzr zhdX12_unit_44 18 rfl
theorem dX12_unit_83 : decode cX12_unit 83 = .ok (.getfield 113, 3) := dzr zhdX12_unit_44 19 rfl
theorem dX12_unit_86 : decode cX12_unit 86 = .ok (.iconst (-1), 1) := dzr zhdX12_unit_44 20 rfl
theorem dX12_unit_87 : decode cX12_unit 87 = .ok (.if_icmp .ne 7, 3) := dzr zhdX12_unit_44 21 rfl
theorem dX12_unit_90 : decode cX12_unit 90 = .ok (.aload_n 0, 1) := dzr zhdX12_unit_44 22 rfl
theorem dX12_unit_91 : decode cX12_unit 91 = .ok (.invokevirtual 168, 3) := dzr zhdX12_unit_44 23 rfl
def ztdX12_unit_94 : List (Nat × Instr × Nat) := [(94, .return_, 1)]
theorem zhdX12_unit_94 : dzC ztdX12_unit_94 94 (cX12_unit.data.toList.drop 94) = true := by decide +kernel
theorem dX12_unit_94 : decode cX12_unit 94 = .ok (.return_, 1) := dzr zhdX12_unit_94 0 rfl
theorem ggX12_goOnAnd_X12_look : GoodIn wsX12_goOnAnd wsX12_look := (bg_up (bg_law (bi_wsL_law0_r15 _ (List.mem_of_getElem? (i := 14) rfl))))
theorem gX12_goOnAnd_X12_look : GoodIn wsX12_goOnAnd (wsV RX12 125 RX12 yX12_look wsX12_look) := goodIn_app (bg_up (bg_cons (bi_wsL_law0_r15 _ (List.mem_of_getElem? (i := 11) rfl)) (bg_cons (bi_wsL_law0_r15 _ (List.mem_of_getElem? (i := 12) rfl)) (bg_cons (bi_wsL_law0_r15 _ (List.mem_of_getElem? (i := 13) rfl)) (bg_cons (bi_wsL_law0_r1 _ (List.mem_of_getElem? (i := 5) rfl)) bg_nil))))) (bg_up (bg_law (bi_wsL_law0_r15 _ (List.mem_of_getElem? (i := 14) rfl))))
theorem ggX12_goOnAnd_X12_unit : GoodIn wsX12_goOnAnd wsX12_unit := (bg_up (bg_law (bi_wsL_law0_r18 _ (List.mem_of_getElem? (i := 11) rfl))))
theorem gX12_goOnAnd_X12_unit : GoodIn wsX12_goOnAnd (wsV RX12 162 RX12 yX12_unit wsX12_unit) := goodIn_app (bg_up (bg_cons (bi_wsL_law0_r17 _ (List.mem_of_getElem? (i := 20) rfl)) (bg_cons (bi_wsL_law0_r17 _ (List.mem_of_getElem? (i := 21) rfl)) (bg_cons (bi_wsL_law0_r17 _ (List.mem_of_getElem? (i := 22) rfl)) (bg_cons (bi_wsL_law0_r1 _ (List.mem_of_getElem? (i := 5) rfl)) bg_nil))))) (bg_up (bg_law (bi_wsL_law0_r18 _ (List.mem_of_getElem? (i := 11) rfl))))
theorem ggX12_goOnAnd_X12_put : GoodIn wsX12_goOnAnd wsX12_put := (bg_up (bg_law (bi_wsL_law0_r18 _ (List.mem_of_getElem? (i := 9) rfl))))
theorem gX12_goOnAnd_X12_put : GoodIn wsX12_goOnAnd (wsV RX12 135 RX12 yX12_put wsX12_put) := goodIn_app (bg_up (bg_cons (bi_wsL_law0_r18 _ (List.mem_of_getElem? (i := 6) rfl)) (bg_cons (bi_wsL_law0_r18 _ (List.mem_of_getElem? (i := 7) rfl)) (bg_cons (bi_wsL_law0_r18 _ (List.mem_of_getElem? (i := 8) rfl)) (bg_cons (bi_wsL_law0_r1 _ (List.mem_of_getElem? (i := 5) rfl)) bg_nil))))) (bg_up (bg_law (bi_wsL_law0_r18 _ (List.mem_of_getElem? (i := 9) rfl))))
def ztdX12_goOnAnd_0 : List (Nat × Instr × Nat) := [(0, .aload_n 0, 1), (1, .getfield 113, 3), (4, .iconst (-1), 1), (5, .if_icmp .ne 36, 3), (8, .aload_n 0, 1), (9, .invokevirtual 125, 3), (12, .bipush 38, 2), (14, .if_icmp .ne 27, 3), (17, .aload_n 0, 1), (18, .dup, 1), (19, .getfield 106, 3), (22, .iconst 1, 1), (23, .iadd, 1), (24, .putfield 106, 3), (27, .aload_n 0, 1), (28, .invokevirtual 162, 3), (31, .aload_n 0, 1), (32, .bipush 10, 2), (34, .iconst 0, 1), (35, .invokevirtual 135, 3), (38, .goto (-38), 3), (41, .return_, 1)]
theorem zhdX12_goOnAnd_0 : dzC ztdX12_goOnAnd_0 0 (cX12_goOnAnd.data.toList.drop 0) = true := by decide +kernel
theorem dX12_goOnAnd_0 : decode cX12_goOnAnd 0 = .ok (.aload_n 0, 1) := dzr zhdX12_goOnAnd_0 0 rfl
theorem dX12_goOnAnd_1 : decode cX12_goOnAnd 1 = .ok (.getfield 113, 3) := dzr zhdX12_goOnAnd_0 1 rfl
theorem dX12_goOnAnd_4 : decode cX12_goOnAnd 4 = .ok (.iconst (-1), 1) := dzr zhdX12_goOnAnd_0 2 rfl
theorem dX12_goOnAnd_5 : decode cX12_goOnAnd 5 = .ok (.if_icmp .ne 36, 3) := dzr zhdX12_goOnAnd_0 3 rfl
theorem dX12_goOnAnd_8 : decode cX12_goOnAnd 8 = .ok (.aload_n 0, 1) := dzr zhdX12_goOnAnd_0 4 rfl
theorem dX12_goOnAnd_9 : decode cX12_goOnAnd 9 = .ok (.invokevirtual 125, 3) := dzr zhdX12_goOnAnd_0 5 rfl
theorem dX12_goOnAnd_12 : decode cX12_goOnAnd 12 = .ok (.bipush 38, 2) := dzr zhdX12_goOnAnd_0 6 rfl
theorem dX12_goOnAnd_14 : decode cX12_goOnAnd 14 = .ok (.if_icmp .ne 27, 3) := dzr zhdX12_goOnAnd_0 7 rfl
theorem dX12_goOnAnd_17 : decode cX12_goOnAnd 17 = .ok (.aload_n 0, 1) := dzr zhdX12_goOnAnd_0 8 rfl
theorem dX12_goOnAnd_18 : decode cX12_goOnAnd 18 = .ok (.dup, 1) := dzr zhdX12_goOnAnd_0 9 rfl
theorem dX12_goOnAnd_19 : decode cX12_goOnAnd 19 = .ok (.getfield 106, 3) := dzr zhdX12_goOnAnd_0 10 rfl
theorem dX12_goOnAnd_22 : decode cX12_goOnAnd 22 = .ok (.iconst 1, 1) := dzr zhdX12_goOnAnd_0 11 rfl
theorem dX12_goOnAnd_23 : decode cX12_goOnAnd 23 = .ok (.iadd, 1) := dzr zhdX12_goOnAnd_0 12 rfl
theorem dX12_goOnAnd_24 : decode cX12_goOnAnd 24 = .ok (.putfield 106, 3) := dzr zhdX12_goOnAnd_0 13 rfl
theorem dX12_goOnAnd_27 : decode cX12_goOnAnd 27 = .ok (.aload_n 0, 1) := dzr zhdX12_goOnAnd_0 14 rfl
theorem dX12_goOnAnd_28 : decode cX12_goOnAnd 28 = .ok (.invokevirtual 162, 3) := dzr zhdX12_goOnAnd_0 15 rfl
theorem dX12_goOnAnd_31 : decode cX12_goOnAnd 31 = .ok (.aload_n 0, 1) := dzr zhdX12_goOnAnd_0 16 rfl
theorem dX12_goOnAnd_32 : decode cX12_goOnAnd 32 = .ok (.bipush 10, 2) := dzr zhdX12_goOnAnd_0 17 rfl
theorem dX12_goOnAnd_34 : decode cX12_goOnAnd 34 = .ok (.iconst 0, 1) := dzr zhdX12_goOnAnd_0 18 rfl
theorem dX12_goOnAnd_35 : decode cX12_goOnAnd 35 = .ok (.invokevirtual 135, 3) := dzr zhdX12_goOnAnd_0 19 rfl
theorem dX12_goOnAnd_38 : decode cX12_goOnAnd 38 = .ok (.goto (-38), 3) := dzr zhdX12_goOnAnd_0 20 rfl
theorem dX12_goOnAnd_41 : decode cX12_goOnAnd 41 = .ok (.return_, 1) := dzr zhdX12_goOnAnd_0 21 rfl
theorem ggX12_goOnOr_X12_look : GoodIn wsX12_goOnOr wsX12_look := (bg_up (bg_law (bi_wsL_law0_r15 _ (List.mem_of_getElem? (i := 14) rfl))))
theorem gX12_goOnOr_X12_look : GoodIn wsX12_goOnOr (wsV RX12 125 RX12 yX12_look wsX12_look) := goodIn_app (bg_up (bg_cons (bi_wsL_law0_r15 _ (List.mem_of_getElem? (i := 11) rfl)) (bg_cons (bi_wsL_law0_r15 _ (List.mem_of_getElem? (i := 12) rfl)) (bg_cons (bi_wsL_law0_r15 _ (List.mem_of_getElem? (i := 13) rfl)) (bg_cons (bi_wsL_law0_r1 _ (List.mem_of_getElem? (i := 5) rfl)) bg_nil))))) (bg_up (bg_law (bi_wsL_law0_r15 _ (List.mem_of_getElem? (i := 14) rfl))))
theorem ggX12_goOnOr_X12_unit : GoodIn wsX12_goOnOr wsX12_unit := (bg_up (bg_law (bi_wsL_law0_r18 _ (List.mem_of_getElem? (i := 11) rfl))))
theorem gX12_goOnOr_X12_unit : GoodIn wsX12_goOnOr (wsV RX12 162 RX12 yX12_unit wsX12_unit) := goodIn_app (bg_up (bg_cons (bi_wsL_law0_r17 _ (List.mem_of_getElem? (i := 20) rfl)) (bg_cons (bi_wsL_law0_r17 _ (List.mem_of_getElem? (i := 21) rfl)) (bg_cons (bi_wsL_law0_r17 _ (List.mem_of_getElem? (i := 22) rfl)) (bg_cons (bi_wsL_law0_r1 _ (List.mem_of_getElem? (i := 5) rfl)) bg_nil))))) (bg_up (bg_law (bi_wsL_law0_r18 _ (List.mem_of_getElem? (i := 11) rfl))))
theorem ggX12_goOnOr_X12_goOnAnd : GoodIn wsX12_goOnOr wsX12_goOnAnd := (bg_up (bg_law (bi_wsL_law0_r18 _ (List.mem_of_getElem? (i := 5) rfl))))
theorem gX12_goOnOr_X12_goOnAnd : GoodIn wsX12_goOnOr (wsV RX12 171 RX12 yX12_goOnAnd wsX12_goOnAnd) := goodIn_app (bg_up (bg_cons (bi_wsL_law0_r17 _ (List.mem_of_getElem? (i := 23) rfl)) (bg_cons (bi_wsL_law0_r18 _ (List.mem_of_getElem? (i := 0) rfl)) (bg_cons (bi_wsL_law0_r18 _ (List.mem_of_getElem? (i := 1) rfl)) (bg_cons (bi_wsL_law0_r1 _ (List.mem_of_getElem? (i := 5) rfl)) bg_nil))))) (bg_up (bg_law (bi_wsL_law0_r18 _ (List.mem_of_getElem? (i := 5) rfl))))
theorem ggX12_goOnOr_X12_put : GoodIn wsX12_goOnOr wsX12_put := (bg_up (bg_law (bi_wsL_law0_r18 _ (List.mem_of_getElem? (i := 9) rfl))))
theorem gX12_goOnOr_X12_put : GoodIn wsX12_goOnOr (wsV RX12 135 RX12 yX12_put wsX12_put) := goodIn_app (bg_up (bg_cons (bi_wsL_law0_r18 _ (List.mem_of_getElem? (i := 6) rfl)) (bg_cons (bi_wsL_law0_r18 _ (List.mem_of_getElem? (i := 7) rfl)) (bg_cons (bi_wsL_law0_r18 _ (List.mem_of_getElem? (i := 8) rfl)) (bg_cons (bi_wsL_law0_r1 _ (List.mem_of_getElem? (i := 5) rfl)) bg_nil))))) (bg_up (bg_law (bi_wsL_law0_r18 _ (List.mem_of_getElem? (i := 9) rfl))))
def ztdX12_goOnOr_0 : List (Nat × Instr × Nat) := [(0, .aload_n 0, 1), (1, .getfield 113, 3), (4, .iconst (-1), 1), (5, .if_icmp .ne 40, 3), (8, .aload_n 0, 1), (9, .invokevirtual 125, 3), (12, .bipush 124, 2), (14, .if_icmp .ne 31, 3), (17, .aload_n 0, 1), (18, .dup, 1), (19, .getfield 106, 3), (22, .iconst 1, 1), (23, .iadd, 1), (24, .putfield 106, 3), (27, .aload_n 0, 1), (28, .invokevirtual 162, 3), (31, .aload_n 0, 1), (32, .invokevirtual 171, 3), (35, .aload_n 0, 1), (36, .bipush 11, 2), (38, .iconst 0, 1), (39, .invokevirtual 135, 3), (42, .goto (-42), 3), (45, .return_, 1)]
theorem zhdX12_goOnOr_0 : dzC ztdX12_goOnOr_0 0 (cX12_goOnOr.data.toList.drop 0) = true := by decide +kernel
theorem dX12_goOnOr_0 : decode cX12_goOnOr 0 = .ok (.aload_n 0, 1) := dzr zhdX12_goOnOr_0 0 rfl
theorem dX12_goOnOr_1 : decode cX12_goOnOr 1 = .ok (.getfield 113, 3) := dzr zhdX12_goOnOr_0 1 rfl
theorem dX12_goOnOr_4 : decode cX12_goOnOr 4 = .ok (.iconst (-1), 1) := dzr zhdX12_goOnOr_0 2 rfl
theorem dX12_goOnOr_5 : decode cX12_goOnOr 5 = .ok (.if_icmp .ne 40, 3) := dzr zhdX12_goOnOr_0 3 rfl
theorem dX12_goOnOr_8 : decode cX12_goOnOr 8 = .ok (.aload_n 0, 1) := dzr zhdX12_goOnOr_0 4 rfl
theorem dX12_goOnOr_9 : decode cX12_goOnOr 9 = .ok (.invokevirtual 125, 3) := dzr zhdX12_goOnOr_0 5 rfl
theorem dX12_goOnOr_12 : decode cX12_goOnOr 12 = .ok (.bipush 124, 2) := dzr zhdX12_goOnOr_0 6 rfl
theorem dX12_goOnOr_14 : decode cX12_goOnOr 14 = .ok (.if_icmp .ne 31, 3) := dzr zhdX12_goOnOr_0 7 rfl
theorem dX12_goOnOr_17 : decode cX12_goOnOr 17 = .ok (.aload_n 0, 1) := dzr zhdX12_goOnOr_0 8 rfl
theorem dX12_goOnOr_18 : decode cX12_goOnOr 18 = .ok (.dup, 1) := dzr zhdX12_goOnOr_0 9 rfl
theorem dX12_goOnOr_19 : decode cX12_goOnOr 19 = .ok (.getfield 106, 3) := dzr zhdX12_goOnOr_0 10 rfl
theorem dX12_goOnOr_22 : decode cX12_goOnOr 22 = .ok (.iconst 1, 1) := dzr zhdX12_goOnOr_0 11 rfl
theorem dX12_goOnOr_23 : decode cX12_goOnOr 23 = .ok (.iadd, 1) := dzr zhdX12_goOnOr_0 12 rfl
theorem dX12_goOnOr_24 : decode cX12_goOnOr 24 = .ok (.putfield 106, 3) := dzr zhdX12_goOnOr_0 13 rfl
theorem dX12_goOnOr_27 : decode cX12_goOnOr 27 = .ok (.aload_n 0, 1) := dzr zhdX12_goOnOr_0 14 rfl
theorem dX12_goOnOr_28 : decode cX12_goOnOr 28 = .ok (.invokevirtual 162, 3) := dzr zhdX12_goOnOr_0 15 rfl
theorem dX12_goOnOr_31 : decode cX12_goOnOr 31 = .ok (.aload_n 0, 1) := dzr zhdX12_goOnOr_0 16 rfl
theorem dX12_goOnOr_32 : decode cX12_goOnOr 32 = .ok (.invokevirtual 171, 3) := dzr zhdX12_goOnOr_0 17 rfl
theorem dX12_goOnOr_35 : decode cX12_goOnOr 35 = .ok (.aload_n 0, 1) := dzr zhdX12_goOnOr_0 18 rfl
theorem dX12_goOnOr_36 : decode cX12_goOnOr 36 = .ok (.bipush 11, 2) := dzr zhdX12_goOnOr_0 19 rfl
theorem dX12_goOnOr_38 : decode cX12_goOnOr 38 = .ok (.iconst 0, 1) := dzr zhdX12_goOnOr_0 20 rfl
theorem dX12_goOnOr_39 : decode cX12_goOnOr 39 = .ok (.invokevirtual 135, 3) := dzr zhdX12_goOnOr_0 21 rfl
theorem dX12_goOnOr_42 : decode cX12_goOnOr 42 = .ok (.goto (-42), 3) := dzr zhdX12_goOnOr_0 22 rfl
theorem dX12_goOnOr_45 : decode cX12_goOnOr 45 = .ok (.return_, 1) := dzr zhdX12_goOnOr_0 23 rfl
theorem ggX12_condition_X12_unit : GoodIn wsX12_condition wsX12_unit := (bg_up (bg_law (bi_wsL_law0_r18 _ (List.mem_of_getElem? (i := 11) rfl))))
theorem gX12_condition_X12_unit : GoodIn wsX12_condition (wsV RX12 162 RX12 yX12_unit wsX12_unit) := goodIn_app (bg_up (bg_cons (bi_wsL_law0_r17 _ (List.mem_of_getElem? (i := 20) rfl)) (bg_cons (bi_wsL_law0_r17 _ (List.mem_of_getElem? (i := 21) rfl)) (bg_cons (bi_wsL_law0_r17 _ (List.mem_of_getElem? (i := 22) rfl)) (bg_cons (bi_wsL_law0_r1 _ (List.mem_of_getElem? (i := 5) rfl)) bg_nil))))) (bg_up (bg_law (bi_wsL_law0_r18 _ (List.mem_of_getElem? (i := 11) rfl))))
theorem ggX12_condition_X12_goOnAnd : GoodIn wsX12_condition wsX12_goOnAnd := (bg_up (bg_law (bi_wsL_law0_r18 _ (List.mem_of_getElem? (i := 5) rfl))))
theorem gX12_condition_X12_goOnAnd : GoodIn wsX12_condition (wsV RX12 171 RX12 yX12_goOnAnd wsX12_goOnAnd) := goodIn_app (bg_up (bg_cons (bi_wsL_law0_r17 _ (List.mem_of_getElem? (i := 23) rfl)) (bg_cons (bi_wsL_law0_r18 _ (List.mem_of_getElem? (i := 0) rfl)) (bg_cons (bi_wsL_law0_r18 _ (List.mem_of_getElem? (i := 1) rfl)) (bg_cons (bi_wsL_law0_r1 _ (List.mem_of_getElem? (i := 5) rfl)) bg_nil))))) (bg_up (bg_law (bi_wsL_law0_r18 _ (List.mem_of_getElem? (i := 5) rfl))))
theorem ggX12_condition_X12_goOnOr : GoodIn wsX12_condition wsX12_goOnOr := (bg_up (bg_law (bi_wsL_law0_r18 _ (List.mem_of_getElem? (i := 10) rfl))))
theorem gX12_condition_X12_goOnOr : GoodIn wsX12_condition (wsV RX12 174 RX12 yX12_goOnOr wsX12_goOnOr) := goodIn_app (bg_up (bg_cons (bi_wsL_law0_r18 _ (List.mem_of_getElem? (i := 2) rfl)) (bg_cons (bi_wsL_law0_r18 _ (List.mem_of_getElem? (i := 3) rfl)) (bg_cons (bi_wsL_law0_r18 _ (List.mem_of_getElem? (i := 4) rfl)) (bg_cons (bi_wsL_law0_r1 _ (List.mem_of_getElem? (i := 5) rfl)) bg_nil))))) (bg_up (bg_law (bi_wsL_law0_r18 _ (List.mem_of_getElem? (i := 10) rfl))))
def ztdX12_condition_0 : List (Nat × Instr × Nat) := [(0, .aload_n 0, 1), (1, .invokevirtual 162, 3), (4, .aload_n 0, 1), (5, .invokevirtual 171, 3), (8, .aload_n 0, 1), (9, .invokevirtual 174, 3), (12, .return_, 1)]
theorem zhdX12_condition_0 : dzC ztdX12_condition_0 0 (cX12_condition.data.toList.drop 0) = true := by decide +kernel
theorem dX12_condition_0 : decode cX12_condition 0 = .ok (.aload_n 0, 1) := dzr zhdX12_condition_0 0 rfl
theorem dX12_condition_1 : decode cX12_condition 1 = .ok (.invokevirtual 162, 3) := dzr zhdX12_condition_0 1 rfl
theorem dX12_condition_4 : decode cX12_condition 4 = .ok (.aload_n 0, 1) := dzr zhdX12_condition_0 2 rfl
theorem dX12_condition_5 : decode cX12_condition 5 = .ok (.invokevirtual 171, 3) := dzr zhdX12_condition_0 3 rfl
theorem dX12_condition_8 : decode cX12_condition 8 = .ok (.aload_n 0, 1) := dzr zhdX12_condition_0 4 rfl
theorem dX12_condition_9 : decode cX12_condition 9 = .ok (.invokevirtual 174, 3) := dzr zhdX12_condition_0 5 rfl
theorem dX12_condition_12 : decode cX12_condition 12 = .ok (.return_, 1) := dzr zhdX12_condition_0 6 rfl
theorem ggX12_clause_X12_look : GoodIn wsX12_clause wsX12_look := (bg_up (bg_law (bi_wsL_law0_r15 _ (List.mem_of_getElem? (i := 14) rfl))))
theorem gX12_clause_X12_look : GoodIn wsX12_clause (wsV RX12 125 RX12 yX12_look wsX12_look) := goodIn_app (bg_up (bg_cons (bi_wsL_law0_r15 _ (List.mem_of_getElem? (i := 11) rfl)) (bg_cons (bi_wsL_law0_r15 _ (List.mem_of_getElem? (i := 12) rfl)) (bg_cons (bi_wsL_law0_r15 _ (List.mem_of_getElem? (i := 13) rfl)) (bg_cons (bi_wsL_law0_r1 _ (List.mem_of_getElem? (i := 5) rfl)) bg_nil))))) (bg_up (bg_law (bi_wsL_law0_r15 _ (List.mem_of_getElem? (i := 14) rfl))))
theorem ggX12_clause_X12_bad : GoodIn wsX12_clause wsX12_bad := (bg_up (bg_law (bi_wsL_law0_r16 _ (List.mem_of_getElem? (i := 18) rfl))))
theorem gX12_clause_X12_bad : GoodIn wsX12_clause (wsV RX12 122 RX12 yX12_bad wsX12_bad) := goodIn_app (bg_up (bg_cons (bi_wsL_law0_r16 _ (List.mem_of_getElem? (i := 15) rfl)) (bg_cons (bi_wsL_law0_r16 _ (List.mem_of_getElem? (i := 16) rfl)) (bg_cons (bi_wsL_law0_r16 _ (List.mem_of_getElem? (i := 17) rfl)) (bg_cons (bi_wsL_law0_r1 _ (List.mem_of_getElem? (i := 5) rfl)) bg_nil))))) (bg_up (bg_law (bi_wsL_law0_r16 _ (List.mem_of_getElem? (i := 18) rfl))))
theorem ggX12_clause_X12_condition : GoodIn wsX12_clause wsX12_condition := (bg_up (bg_law (bi_wsL_law0_r17 _ (List.mem_of_getElem? (i := 19) rfl))))
theorem gX12_clause_X12_condition : GoodIn wsX12_clause (wsV RX12 165 RX12 yX12_condition wsX12_condition) := goodIn_app (bg_up (bg_cons (bi_wsL_law0_r17 _ (List.mem_of_getElem? (i := 16) rfl)) (bg_cons (bi_wsL_law0_r17 _ (List.mem_of_getElem? (i := 17) rfl)) (bg_cons (bi_wsL_law0_r17 _ (List.mem_of_getElem? (i := 18) rfl)) (bg_cons (bi_wsL_law0_r1 _ (List.mem_of_getElem? (i := 5) rfl)) bg_nil))))) (bg_up (bg_law (bi_wsL_law0_r17 _ (List.mem_of_getElem? (i := 19) rfl))))
theorem ggX12_clause_X12_sum : GoodIn wsX12_clause wsX12_sum := (bg_up (bg_law (bi_wsL_law0_r18 _ (List.mem_of_getElem? (i := 23) rfl))))
theorem gX12_clause_X12_sum : GoodIn wsX12_clause (wsV RX12 146 RX12 yX12_sum wsX12_sum) := goodIn_app (bg_up (bg_cons (bi_wsL_law0_r18 _ (List.mem_of_getElem? (i := 20) rfl)) (bg_cons (bi_wsL_law0_r18 _ (List.mem_of_getElem? (i := 21) rfl)) (bg_cons (bi_wsL_law0_r18 _ (List.mem_of_getElem? (i := 22) rfl)) (bg_cons (bi_wsL_law0_r1 _ (List.mem_of_getElem? (i := 5) rfl)) bg_nil))))) (bg_up (bg_law (bi_wsL_law0_r18 _ (List.mem_of_getElem? (i := 23) rfl))))
theorem ggX12_clause_X12_isSign : GoodIn wsX12_clause wsX12_isSign := (bg_up (bg_law (bi_wsL_law0_r19 _ (List.mem_of_getElem? (i := 21) rfl))))
theorem gX12_clause_X12_isSign : GoodIn wsX12_clause (va_wsS RX12 159 yX12_isSign wsX12_isSign) := goodIn_app (bg_up (bg_cons (bi_wsL_law0_r19 _ (List.mem_of_getElem? (i := 19) rfl)) (bg_cons (bi_wsL_law0_r19 _ (List.mem_of_getElem? (i := 20) rfl)) (bg_cons (bi_wsL_law0_r1 _ (List.mem_of_getElem? (i := 5) rfl)) bg_nil)))) (bg_up (bg_law (bi_wsL_law0_r19 _ (List.mem_of_getElem? (i := 21) rfl))))
theorem ggX12_clause_X12_compare : GoodIn wsX12_clause wsX12_compare := (bg_up (bg_law (bi_wsL_law0_r19 _ (List.mem_of_getElem? (i := 18) rfl))))
theorem gX12_clause_X12_compare : GoodIn wsX12_clause (wsV RX12 168 RX12 yX12_compare wsX12_compare) := goodIn_app (bg_up (bg_cons (bi_wsL_law0_r19 _ (List.mem_of_getElem? (i := 15) rfl)) (bg_cons (bi_wsL_law0_r19 _ (List.mem_of_getElem? (i := 16) rfl)) (bg_cons (bi_wsL_law0_r19 _ (List.mem_of_getElem? (i := 17) rfl)) (bg_cons (bi_wsL_law0_r1 _ (List.mem_of_getElem? (i := 5) rfl)) bg_nil))))) (bg_up (bg_law (bi_wsL_law0_r19 _ (List.mem_of_getElem? (i := 18) rfl))))
theorem ggX12_clause_X12_goOnAnd : GoodIn wsX12_clause wsX12_goOnAnd := (bg_up (bg_law (bi_wsL_law0_r18 _ (List.mem_of_getElem? (i := 5) rfl))))
theorem gX12_clause_X12_goOnAnd : GoodIn wsX12_clause (wsV RX12 171 RX12 yX12_goOnAnd wsX12_goOnAnd) := goodIn_app (bg_up (bg_cons (bi_wsL_law0_r17 _ (List.mem_of_getElem? (i := 23) rfl)) (bg_cons (bi_wsL_law0_r18 _ (List.mem_of_getElem? (i := 0) rfl)) (bg_cons (bi_wsL_law0_r18 _ (List.mem_of_getElem? (i := 1) rfl)) (bg_cons (bi_wsL_law0_r1 _ (List.mem_of_getElem? (i := 5) rfl)) bg_nil))))) (bg_up (bg_law (bi_wsL_law0_r18 _ (List.mem_of_getElem? (i := 5) rfl))))
theorem ggX12_clause_X12_goOnOr : GoodIn wsX12_clause wsX12_goOnOr := (bg_up (bg_law (bi_wsL_law0_r18 _ (List.mem_of_getElem? (i := 10) rfl))))
theorem gX12_clause_X12_goOnOr : GoodIn wsX12_clause (wsV RX12 174 RX12 yX12_goOnOr wsX12_goOnOr) := goodIn_app (bg_up (bg_cons (bi_wsL_law0_r18 _ (List.mem_of_getElem? (i := 2) rfl)) (bg_cons (bi_wsL_law0_r18 _ (List.mem_of_getElem? (i := 3) rfl)) (bg_cons (bi_wsL_law0_r18 _ (List.mem_of_getElem? (i := 4) rfl)) (bg_cons (bi_wsL_law0_r1 _ (List.mem_of_getElem? (i := 5) rfl)) bg_nil))))) (bg_up (bg_law (bi_wsL_law0_r18 _ (List.mem_of_getElem? (i := 10) rfl))))
def ztdX12_clause_0 : List (Nat × Instr × Nat) := [(0, .sipush 140, 3), (3, .aload_n 0, 1), (4, .getfield 116, 3), (7, .imul, 1), (8, .aload_n 0, 1), (9, .getfield 22, 3), (12, .aload_n 0, 1), (13, .getfield 116, 3), (16, .iaload, 1), (17, .iadd, 1), (18, .istore_n 1, 1), (19, .aload_n 0, 1), (20, .getfield 113, 3), (23, .iconst (-1), 1), (24, .if_icmp .ne 16, 3), (27, .aload_n 0, 1), (28, .invokevirtual 125, 3), (31, .bipush 121, 2), (33, .if_icmp .eq 7, 3), (36, .aload_n 0, 1), (37, .invokevirtual 122, 3), (40, .aload_n 0, 1), (41, .dup, 1), (42, .getfield 106, 3)]
theorem zhdX12_clause_0 : dzC ztdX12_clause_0 0 (cX12_clause.data.toList.drop 0) = true := by decide +kernel
theorem dX12_clause_0 : decode cX12_clause 0 = .ok (.sipush 140, 3) := dzr zhdX12_clause_0 0 rfl
theorem dX12_clause_3 : decode cX12_clause 3 = .ok (.aload_n 0, 1) := dzr zhdX12_clause_0 1 rfl
theorem dX12_clause_4 : decode cX12_clause 4 = .ok (.getfield 116, 3) := dzr zhdX12_clause_0 2 rfl
theorem dX12_clause_7 : decode cX12_clause 7 = .ok (.imul, 1) := dzr zhdX12_clause_0 3 rfl
theorem dX12_clause_8 : decode cX12_clause 8 = .ok (.aload_n 0, 1) := dzr zhdX12_clause_0 4 rfl
theorem dX12_clause_9 : decode cX12_clause 9 = .ok (.getfield 22, 3) := dzr zhdX12_clause_0 5 rfl
theorem dX12_clause_12 : decode cX12_clause 12 = .ok (.aload_n 0, 1) := dzr zhdX12_clause_0 6 rfl
theorem dX12_clause_13 : decode cX12_clause 13 = .ok (.getfield 116, 3) := dzr zhdX12_clause_0 7 rfl
theorem dX12_clause_16 : decode cX12_clause 16 = .ok (.iaload, 1) := dzr zhdX12_clause_0 8 rfl
theorem dX12_clause_17 : decode cX12_clause 17 = .ok (.iadd, 1) := dzr zhdX12_clause_0 9 rfl
theorem dX12_clause_18 : decode cX12_clause 18 = .ok (.istore_n 1, 1) := dzr zhdX12_clause_0 10 rfl
theorem dX12_clause_19 : decode cX12_clause 19 = .ok (.aload_n 0, 1) := dzr zhdX12_clause_0 11 rfl
theorem dX12_clause_20 : decode cX12_clause 20 = .ok (.getfield 113, 3) := dzr zhdX12_clause_0 12 rfl
theorem dX12_clause_23 : decode cX12_clause 23 = .ok (.iconst (-1), 1) := dzr zhdX12_clause_0 13 rfl
theorem dX12_clause_24 : decode cX12_clause 24 = .ok (.if_icmp .ne 16, 3) := dzr zhdX12_clause_0 14 rfl
theorem dX12_clause_27 : decode cX12_clause 27 = .ok (.aload_n 0, 1) := dzr zhdX12_clause_0 15 rfl
theorem dX12_clause_28 : decode cX12_clause 28 = .ok (.invokevirtual 125, 3) := dzr zhdX12_clause_0 16 rfl
theorem dX12_clause_31 : decode cX12_clause 31 = .ok (.bipush 121, 2) := dzr zhdX12_clause_0 17 rfl
theorem dX12_clause_33 : decode cX12_clause 33 = .ok (.if_icmp .eq 7, 3) := dzr zhdX12_clause_0 18 rfl
theorem dX12_clause_36 : decode cX12_clause 36 = .ok (.aload_n 0, 1) := dzr zhdX12_clause_0 19 rfl
theorem dX12_clause_37 : decode cX12_clause 37 = .ok (.invokevirtual 122, 3) := dzr zhdX12_clause_0 20 rfl
theorem dX12_clause_40 : decode cX12_clause 40 = .ok (.aload_n 0, 1) := dzr zhdX12_clause_0 21 rfl
theorem dX12_clause_41 : decode cX12_clause 41 = .ok (.dup, 1) := dzr zhdX12_clause_0 22 rfl
theorem dX12_clause_42 : decode cX12_clause 42 = .ok (.getfield 106, 3) := dzr zhdX12_clause_0 23 rfl
def ztdX12_clause_45 : List (Nat × Instr × Nat) := [(45, .iconst 1, 1), (46, .iadd, 1), (47, .putfield 106, 3), (50, .aload_n 0, 1), (51, .getfield 113, 3), (54, .iconst (-1), 1), (55, .if_icmp .ne 16, 3), (58, .aload_n 0, 1), (59, .invokevirtual 125, 3), (62, .bipush 58, 2), (64, .if_icmp .eq 7, 3), (67, .aload_n 0, 1), (68, .invokevirtual 122, 3), (71, .aload_n 0, 1), (72, .dup, 1), (73, .getfield 106, 3), (76, .iconst 1, 1), (77, .iadd, 1), (78, .putfield 106, 3), (81, .aload_n 0, 1), (82, .getfield 113, 3), (85, .iconst (-1), 1), (86, .if_icmp .eq 4, 3), (89, .return_, 1)]
theorem zhdX12_clause_45 : dzC ztdX12_clause_45 45 (cX12_clause.data.toList.drop 45) = true := by decide +kernel
theorem dX12_clause_45 : decode cX12_clause 45 = .ok (.iconst 1, 1) := dzr zhdX12_clause_45 0 rfl
theorem dX12_clause_46 : decode cX12_clause 46 = .ok (.iadd, 1) := dzr zhdX12_clause_45 1 rfl
theorem dX12_clause_47 : decode cX12_clause 47 = .ok (.putfield 106, 3) := dzr zhdX12_clause_45 2 rfl
theorem dX12_clause_50 : decode cX12_clause 50 = .ok (.aload_n 0, 1) := dzr zhdX12_clause_45 3 rfl
theorem dX12_clause_51 : decode cX12_clause 51 = .ok (.getfield 113, 3) := dzr zhdX12_clause_45 4 rfl
theorem dX12_clause_54 : decode cX12_clause 54 = .ok (.iconst (-1), 1) := dzr zhdX12_clause_45 5 rfl
theorem dX12_clause_55 : decode cX12_clause 55 = .ok (.if_icmp .ne 16, 3) := dzr zhdX12_clause_45 6 rfl
theorem dX12_clause_58 : decode cX12_clause 58 = .ok (.aload_n 0, 1) := dzr zhdX12_clause_45 7 rfl
theorem dX12_clause_59 : decode cX12_clause 59 = .ok (.invokevirtual 125, 3) := dzr zhdX12_clause_45 8 rfl
theorem dX12_clause_62 : decode cX12_clause 62 = .ok (.bipush 58, 2) := dzr zhdX12_clause_45 9 rfl
theorem dX12_clause_64 : decode cX12_clause 64 = .ok (.if_icmp .eq 7, 3) := dzr zhdX12_clause_45 10 rfl
theorem dX12_clause_67 : decode cX12_clause 67 = .ok (.aload_n 0, 1) := dzr zhdX12_clause_45 11 rfl
theorem dX12_clause_68 : decode cX12_clause 68 = .ok (.invokevirtual 122, 3) := dzr zhdX12_clause_45 12 rfl
theorem dX12_clause_71 : decode cX12_clause 71 = .ok (.aload_n 0, 1) := dzr zhdX12_clause_45 13 rfl
theorem dX12_clause_72 : decode cX12_clause 72 = .ok (.dup, 1) := dzr zhdX12_clause_45 14 rfl
theorem dX12_clause_73 : decode cX12_clause 73 = .ok (.getfield 106, 3) := dzr zhdX12_clause_45 15 rfl
theorem dX12_clause_76 : decode cX12_clause 76 = .ok (.iconst 1, 1) := dzr zhdX12_clause_45 16 rfl
theorem dX12_clause_77 : decode cX12_clause 77 = .ok (.iadd, 1) := dzr zhdX12_clause_45 17 rfl
theorem dX12_clause_78 : decode cX12_clause 78 = .ok (.putfield 106, 3) := dzr zhdX12_clause_45 18 rfl
theorem dX12_clause_81 : decode cX12_clause 81 = .ok (.aload_n 0, 1) := dzr zhdX12_clause_45 19 rfl
theorem dX12_clause_82 : decode cX12_clause 82 = .ok (.getfield 113, 3) := dzr zhdX12_clause_45 20 rfl
theorem dX12_clause_85 : decode cX12_clause 85 = .ok (.iconst (-1), 1) := dzr zhdX12_clause_45 21 rfl
theorem dX12_clause_86 : decode cX12_clause 86 = .ok (.if_icmp .eq 4, 3) := dzr zhdX12_clause_45 22 rfl
theorem dX12_clause_89 : decode cX12_clause 89 = .ok (.return_, 1) := dzr zhdX12_clause_45 23 rfl
def ztdX12_clause_90 : List (Nat × Instr × Nat) := [(90, .aload_n 0, 1), (91, .getfield 25, 3), (94, .iload_n 1, 1), (95, .aload_n 0, 1), (96, .getfield 19, 3), (99, .aload_n 0, 1), (100, .getfield 116, 3), (103, .iaload, 1), (104, .iastore, 1), (105, .aload_n 0, 1), (106, .invokevirtual 125, 3), (109, .bipush 33, 2), (111, .if_icmp .eq 12, 3), (114, .aload_n 0, 1), (115, .invokevirtual 125, 3), (118, .bipush 40, 2), (120, .if_icmp .ne 7, 3), (123, .iconst 1, 1), (124, .goto 4, 3), (127, .iconst 0, 1), (128, .istore_n 2, 1), (129, .iload_n 2, 1), (130, .ifCond .eq 10, 3), (133, .aload_n 0, 1)]
theorem zhdX12_clause_90 : dzC ztdX12_clause_90 90 (cX12_clause.data.toList.drop 90) = true := by decide +kernel
theorem dX12_clause_90 : decode cX12_clause 90 = .ok (.aload_n 0, 1) := dzr zhdX12_clause_90 0 rfl
theorem dX12_clause_91 : decode cX12_clause 91 = .ok (.getfield 25, 3) := dzr zhdX12_clause_90 1 rfl
theorem dX12_clause_94 : decode cX12_clause 94 = .ok (.iload_n 1, 1) := dzr zhdX12_clause_90 2 rfl
theorem dX12_clause_95 : decode cX12_clause 95 = .ok (.aload_n 0, 1) := dzr zhdX12_clause_90 3 rfl
theorem dX12_clause_96 : decode cX12_clause 96 = .ok (.getfield 19, 3) := dzr zhdX12_clause_90 4 rfl
theorem dX12_clause_99 : decode cX12_clause 99 = .ok (.aload_n 0, 1) := dzr zhdX12_clause_90 5 rfl
theorem dX12_clause_100 : decode cX12_clause 100 = .ok (.getfield 116, 3) := dzr zhdX12_clause_90 6 rfl
theorem dX12_clause_103 : decode cX12_clause 103 = .ok (.iaload, 1) := dzr zhdX12_clause_90 7 rfl
theorem dX12_clause_104 : decode cX12_clause 104 = .ok (.iastore, 1) := dzr zhdX12_clause_90 8 rfl
theorem dX12_clause_105 : decode cX12_clause 105 = .ok (.aload_n 0, 1) := dzr zhdX12_clause_90 9 rfl
theorem dX12_clause_106 : decode cX12_clause 106 = .ok (.invokevirtual 125, 3) := dzr zhdX12_clause_90 10 rfl
theorem dX12_clause_109 : decode cX12_clause 109 = .ok (.bipush 33, 2) := dzr zhdX12_clause_90 11 rfl
theorem dX12_clause_111 : decode cX12_clause 111 = .ok (.if_icmp .eq 12, 3) := dzr zhdX12_clause_90 12 rfl
theorem dX12_clause_114 : decode cX12_clause 114 = .ok (.aload_n 0, 1) := dzr zhdX12_clause_90 13 rfl
theorem dX12_clause_115 : decode cX12_clause 115 = .ok (.invokevirtual 125, 3) := dzr zhdX12_clause_90 14 rfl
theorem dX12_clause_118 : decode cX12_clause 118 = .ok (.bipush 40, 2) := dzr zhdX12_clause_90 15 rfl
theorem dX12_clause_120 : decode cX12_clause 120 = .ok (.if_icmp .ne 7, 3) := dzr zhdX12_clause_90 16 rfl
theorem dX12_clause_123 : decode cX12_clause 123 = .ok (.iconst 1, 1) := dzr zhdX12_clause_90 17 rfl
theorem dX12_clause_124 : decode cX12_clause 124 = .ok (.goto 4, 3) := dzr zhdX12_clause_90 18 rfl
theorem dX12_clause_127 : decode cX12_clause 127 = .ok (.iconst 0, 1) := dzr zhdX12_clause_90 19 rfl
theorem dX12_clause_128 : decode cX12_clause 128 = .ok (.istore_n 2, 1) := dzr zhdX12_clause_90 20 rfl
theorem dX12_clause_129 : decode cX12_clause 129 = .ok (.iload_n 2, 1) := dzr zhdX12_clause_90 21 rfl
theorem dX12_clause_130 : decode cX12_clause 130 = .ok (.ifCond .eq 10, 3) := dzr zhdX12_clause_90 22 rfl
theorem dX12_clause_133 : decode cX12_clause 133 = .ok (.aload_n 0, 1) := dzr zhdX12_clause_90 23 rfl
def ztdX12_clause_134 : List (Nat × Instr × Nat) := [(134, .invokevirtual 165, 3), (137, .goto 47, 3), (140, .aload_n 0, 1), (141, .invokevirtual 146, 3), (144, .aload_n 0, 1), (145, .getfield 113, 3), (148, .iconst (-1), 1), (149, .if_icmp .ne 17, 3), (152, .aload_n 0, 1), (153, .invokevirtual 125, 3), (156, .invokestatic 159, 3), (159, .ifCond .eq 7, 3), (162, .iconst 1, 1), (163, .goto 4, 3), (166, .iconst 0, 1), (167, .istore_n 2, 1), (168, .iload_n 2, 1), (169, .ifCond .eq 15, 3), (172, .aload_n 0, 1), (173, .invokevirtual 168, 3), (176, .aload_n 0, 1), (177, .invokevirtual 171, 3), (180, .aload_n 0, 1), (181, .invokevirtual 174, 3)]
theorem zhdX12_clause_134 : dzC ztdX12_clause_134 134 (cX12_clause.data.toList.drop 134) = true := by decide +kernel
theorem dX12_clause_134 : decode cX12_clause 134 = .ok (.invokevirtual 165, 3) := dzr zhdX12_clause_134 0 rfl
theorem dX12_clause_137 : decode cX12_clause 137 = .ok (.goto 47, 3) := dzr zhdX12_clause_134 1 rfl
theorem dX12_clause_140 : decode cX12_clause 140 = .ok (.aload_n 0, 1) := dzr zhdX12_clause_134 2 rfl
theorem dX12_clause_141 : decode cX12_clause 141 = .ok (.invokevirtual 146, 3) := dzr zhdX12_clause_134 3 rfl
theorem dX12_clause_144 : decode cX12_clause 144 = .ok (.aload_n 0, 1) := dzr zhdX12_clause_134 4 rfl
theorem dX12_clause_145 : decode cX12_clause 145 = .ok (.getfield 113, 3) := dzr zhdX12_clause_134 5 rfl
theorem dX12_clause_148 : decode cX12_clause 148 = .ok (.iconst (-1), 1) := dzr zhdX12_clause_134 6 rfl
theorem dX12_clause_149 : decode cX12_clause 149 = .ok (.if_icmp .ne 17, 3) := dzr zhdX12_clause_134 7 rfl
theorem dX12_clause_152 : decode cX12_clause 152 = .ok (.aload_n 0, 1) := dzr zhdX12_clause_134 8 rfl
theorem dX12_clause_153 : decode cX12_clause 153 = .ok (.invokevirtual 125, 3) := dzr zhdX12_clause_134 9 rfl
theorem dX12_clause_156 : decode cX12_clause 156 = .ok (.invokestatic 159, 3) := dzr zhdX12_clause_134 10 rfl
theorem dX12_clause_159 : decode cX12_clause 159 = .ok (.ifCond .eq 7, 3) := dzr zhdX12_clause_134 11 rfl
theorem dX12_clause_162 : decode cX12_clause 162 = .ok (.iconst 1, 1) := dzr zhdX12_clause_134 12 rfl
theorem dX12_clause_163 : decode cX12_clause 163 = .ok (.goto 4, 3) := dzr zhdX12_clause_134 13 rfl
theorem dX12_clause_166 : decode cX12_clause 166 = .ok (.iconst 0, 1) := dzr zhdX12_clause_134 14 rfl
theorem dX12_clause_167 : decode cX12_clause 167 = .ok (.istore_n 2, 1) := dzr zhdX12_clause_134 15 rfl
theorem dX12_clause_168 : decode cX12_clause 168 = .ok (.iload_n 2, 1) := dzr zhdX12_clause_134 16 rfl
theorem dX12_clause_169 : decode cX12_clause 169 = .ok (.ifCond .eq 15, 3) := dzr zhdX12_clause_134 17 rfl
theorem dX12_clause_172 : decode cX12_clause 172 = .ok (.aload_n 0, 1) := dzr zhdX12_clause_134 18 rfl
theorem dX12_clause_173 : decode cX12_clause 173 = .ok (.invokevirtual 168, 3) := dzr zhdX12_clause_134 19 rfl
theorem dX12_clause_176 : decode cX12_clause 176 = .ok (.aload_n 0, 1) := dzr zhdX12_clause_134 20 rfl
theorem dX12_clause_177 : decode cX12_clause 177 = .ok (.invokevirtual 171, 3) := dzr zhdX12_clause_134 21 rfl
theorem dX12_clause_180 : decode cX12_clause 180 = .ok (.aload_n 0, 1) := dzr zhdX12_clause_134 22 rfl
theorem dX12_clause_181 : decode cX12_clause 181 = .ok (.invokevirtual 174, 3) := dzr zhdX12_clause_134 23 rfl
def ztdX12_clause_184 : List (Nat × Instr × Nat) := [(184, .aload_n 0, 1), (185, .getfield 28, 3), (188, .iload_n 1, 1), (189, .aload_n 0, 1), (190, .getfield 25, 3), (193, .iload_n 1, 1), (194, .iaload, 1), (195, .iastore, 1), (196, .iload_n 2, 1), (197, .ifCond .eq 54, 3), (200, .aload_n 0, 1), (201, .getfield 113, 3), (204, .iconst (-1), 1), (205, .if_icmp .ne 46, 3), (208, .aload_n 0, 1), (209, .invokevirtual 125, 3), (212, .bipush 63, 2), (214, .if_icmp .eq 8, 3), (217, .aload_n 0, 1), (218, .invokevirtual 122, 3), (221, .return_, 1), (222, .aload_n 0, 1), (223, .dup, 1), (224, .getfield 106, 3)]
theorem zhdX12_clause_184 : dzC ztdX12_clause_184 184 (cX12_clause.data.toList.drop 184) = true := by decide +kernel
theorem dX12_clause_184 : decode cX12_clause 184 = .ok (.aload_n 0, 1) := dzr zhdX12_clause_184 0 rfl
theorem dX12_clause_185 : decode cX12_clause 185 = .ok (.getfield 28, 3) := dzr zhdX12_clause_184 1 rfl
theorem dX12_clause_188 : decode cX12_clause 188 = .ok (.iload_n 1, 1) := dzr zhdX12_clause_184 2 rfl
theorem dX12_clause_189 : decode cX12_clause 189 = .ok (.aload_n 0, 1) := dzr zhdX12_clause_184 3 rfl
theorem dX12_clause_190 : decode cX12_clause 190 = .ok (.getfield 25, 3) := dzr zhdX12_clause_184 4 rfl
theorem dX12_clause_193 : decode cX12_clause 193 = .ok (.iload_n 1, 1) := dzr zhdX12_clause_184 5 rfl
theorem dX12_clause_194 : decode cX12_clause 194 = .ok (.iaload, 1) := dzr zhdX12_clause_184 6 rfl
theorem dX12_clause_195 : decode cX12_clause 195 = .ok (.iastore, 1) := dzr zhdX12_clause_184 7 rfl
theorem dX12_clause_196 : decode cX12_clause 196 = .ok (.iload_n 2, 1) := dzr zhdX12_clause_184 8 rfl
theorem dX12_clause_197 : decode cX12_clause 197 = .ok (.ifCond .eq 54, 3) := dzr zhdX12_clause_184 9 rfl
theorem dX12_clause_200 : decode cX12_clause 200 = .ok (.aload_n 0, 1) := dzr zhdX12_clause_184 10 rfl
theorem dX12_clause_201 : decode cX12_clause 201 = .ok (.getfield 113, 3) := dzr zhdX12_clause_184 11 rfl
theorem dX12_clause_204 : decode cX12_clause 204 = .ok (.iconst (-1), 1) := dzr zhdX12_clause_184 12 rfl
theorem dX12_clause_205 : decode cX12_clause 205 = .ok (.if_icmp .ne 46, 3) := dzr zhdX12_clause_184 13 rfl
theorem dX12_clause_208 : decode cX12_clause 208 = .ok (.aload_n 0, 1) := dzr zhdX12_clause_184 14 rfl
theorem dX12_clause_209 : decode cX12_clause 209 = .ok (.invokevirtual 125, 3) := dzr zhdX12_clause_184 15 rfl
theorem dX12_clause_212 : decode cX12_clause 212 = .ok (.bipush 63, 2) := dzr zhdX12_clause_184 16 rfl
theorem dX12_clause_214 : decode cX12_clause 214 = .ok (.if_icmp .eq 8, 3) := dzr zhdX12_clause_184 17 rfl
theorem dX12_clause_217 : decode cX12_clause 217 = .ok (.aload_n 0, 1) := dzr zhdX12_clause_184 18 rfl
theorem dX12_clause_218 : decode cX12_clause 218 = .ok (.invokevirtual 122, 3) := dzr zhdX12_clause_184 19 rfl
theorem dX12_clause_221 : decode cX12_clause 221 = .ok (.return_, 1) := dzr zhdX12_clause_184 20 rfl
theorem dX12_clause_222 : decode cX12_clause 222 = .ok (.aload_n 0, 1) := dzr zhdX12_clause_184 21 rfl
theorem dX12_clause_223 : decode cX12_clause 223 = .ok (.dup, 1) := dzr zhdX12_clause_184 22 rfl
theorem dX12_clause_224 : decode cX12_clause 224 = .ok (.getfield 106, 3) := dzr zhdX12_clause_184 23 rfl
def ztdX12_clause_227 : List (Nat × Instr × Nat) := [(227, .iconst 1, 1), (228, .iadd, 1), (229, .putfield 106, 3), (232, .aload_n 0, 1), (233, .getfield 28, 3), (236, .iload_n 1, 1), (237, .aload_n 0, 1), (238, .getfield 19, 3), (241, .aload_n 0, 1), (242, .getfield 116, 3), (245, .iaload, 1), (246, .iastore, 1), (247, .aload_n 0, 1), (248, .invokevirtual 146, 3), (251, .aload_n 0, 1), (252, .getfield 31, 3), (255, .iload_n 1, 1), (256, .aload_n 0, 1), (257, .getfield 19, 3), (260, .aload_n 0, 1), (261, .getfield 116, 3), (264, .iaload, 1), (265, .iastore, 1), (266, .aload_n 0, 1)]
theorem zhdX12_clause_227 : dzC ztdX12_clause_227 227 (cX12_clause.data.toList.drop 227) = true := by decide +kernel
theorem dX12_clause_227 : decode cX12_clause 227 = .ok (.iconst 1, 1) := dzr zhdX12_clause_227 0 rfl
theorem dX12_clause_228 : decode cX12_clause 228 = .ok (.iadd, 1) := dzr zhdX12_clause_227 1 rfl
theorem dX12_clause_229 : decode cX12_clause 229 = .ok (.putfield 106, 3) := dzr zhdX12_clause_227 2 rfl
theorem dX12_clause_232 : decode cX12_clause 232 = .ok (.aload_n 0, 1) := dzr zhdX12_clause_227 3 rfl
theorem dX12_clause_233 : decode cX12_clause 233 = .ok (.getfield 28, 3) := dzr zhdX12_clause_227 4 rfl
theorem dX12_clause_236 : decode cX12_clause 236 = .ok (.iload_n 1, 1) := dzr zhdX12_clause_227 5 rfl
theorem dX12_clause_237 : decode cX12_clause 237 = .ok (.aload_n 0, 1) := dzr zhdX12_clause_227 6 rfl
theorem dX12_clause_238 : decode cX12_clause 238 = .ok (.getfield 19, 3) := dzr zhdX12_clause_227 7 rfl
theorem dX12_clause_241 : decode cX12_clause 241 = .ok (.aload_n 0, 1) := dzr zhdX12_clause_227 8 rfl
theorem dX12_clause_242 : decode cX12_clause 242 = .ok (.getfield 116, 3) := dzr zhdX12_clause_227 9 rfl
theorem dX12_clause_245 : decode cX12_clause 245 = .ok (.iaload, 1) := dzr zhdX12_clause_227 10 rfl
theorem dX12_clause_246 : decode cX12_clause 246 = .ok (.iastore, 1) := dzr zhdX12_clause_227 11 rfl
theorem dX12_clause_247 : decode cX12_clause 247 = .ok (.aload_n 0, 1) := dzr zhdX12_clause_227 12 rfl
theorem dX12_clause_248 : decode cX12_clause 248 = .ok (.invokevirtual 146, 3) := dzr zhdX12_clause_227 13 rfl
theorem dX12_clause_251 : decode cX12_clause 251 = .ok (.aload_n 0, 1) := dzr zhdX12_clause_227 14 rfl
theorem dX12_clause_252 : decode cX12_clause 252 = .ok (.getfield 31, 3) := dzr zhdX12_clause_227 15 rfl
theorem dX12_clause_255 : decode cX12_clause 255 = .ok (.iload_n 1, 1) := dzr zhdX12_clause_227 16 rfl
theorem dX12_clause_256 : decode cX12_clause 256 = .ok (.aload_n 0, 1) := dzr zhdX12_clause_227 17 rfl
theorem dX12_clause_257 : decode cX12_clause 257 = .ok (.getfield 19, 3) := dzr zhdX12_clause_227 18 rfl
theorem dX12_clause_260 : decode cX12_clause 260 = .ok (.aload_n 0, 1) := dzr zhdX12_clause_227 19 rfl
theorem dX12_clause_261 : decode cX12_clause 261 = .ok (.getfield 116, 3) := dzr zhdX12_clause_227 20 rfl
theorem dX12_clause_264 : decode cX12_clause 264 = .ok (.iaload, 1) := dzr zhdX12_clause_227 21 rfl
theorem dX12_clause_265 : decode cX12_clause 265 = .ok (.iastore, 1) := dzr zhdX12_clause_227 22 rfl
theorem dX12_clause_266 : decode cX12_clause 266 = .ok (.aload_n 0, 1) := dzr zhdX12_clause_227 23 rfl
def ztdX12_clause_267 : List (Nat × Instr × Nat) := [(267, .getfield 22, 3), (270, .aload_n 0, 1), (271, .getfield 116, 3), (274, .dup2, 1), (275, .iaload, 1), (276, .iconst 1, 1), (277, .iadd, 1), (278, .iastore, 1), (279, .return_, 1)]
theorem zhdX12_clause_267 : dzC ztdX12_clause_267 267 (cX12_clause.data.toList.drop 267) = true := by decide +kernel
theorem dX12_clause_267 : decode cX12_clause 267 = .ok (.getfield 22, 3) := dzr zhdX12_clause_267 0 rfl
theorem dX12_clause_270 : decode cX12_clause 270 = .ok (.aload_n 0, 1) := dzr zhdX12_clause_267 1 rfl
theorem dX12_clause_271 : decode cX12_clause 271 = .ok (.getfield 116, 3) := dzr zhdX12_clause_267 2 rfl
theorem dX12_clause_274 : decode cX12_clause 274 = .ok (.dup2, 1) := dzr zhdX12_clause_267 3 rfl
theorem dX12_clause_275 : decode cX12_clause 275 = .ok (.iaload, 1) := dzr zhdX12_clause_267 4 rfl
theorem dX12_clause_276 : decode cX12_clause 276 = .ok (.iconst 1, 1) := dzr zhdX12_clause_267 5 rfl
theorem dX12_clause_277 : decode cX12_clause 277 = .ok (.iadd, 1) := dzr zhdX12_clause_267 6 rfl
theorem dX12_clause_278 : decode cX12_clause 278 = .ok (.iastore, 1) := dzr zhdX12_clause_267 7 rfl
theorem dX12_clause_279 : decode cX12_clause 279 = .ok (.return_, 1) := dzr zhdX12_clause_267 8 rfl
def ztdX12_open_0 : List (Nat × Instr × Nat) := [(0, .aload_n 0, 1), (1, .iload_n 1, 1), (2, .putfield 116, 3), (5, .aload_n 0, 1), (6, .iconst 0, 1), (7, .putfield 106, 3), (10, .aload_n 0, 1), (11, .iconst (-1), 1), (12, .putfield 113, 3), (15, .aload_n 0, 1), (16, .iconst 0, 1), (17, .putfield 119, 3), (20, .aload_n 0, 1), (21, .getfield 19, 3), (24, .iload_n 1, 1), (25, .iconst 0, 1), (26, .iastore, 1), (27, .aload_n 0, 1), (28, .getfield 22, 3), (31, .iload_n 1, 1), (32, .iconst 0, 1), (33, .iastore, 1), (34, .return_, 1)]
theorem zhdX12_open_0 : dzC ztdX12_open_0 0 (cX12_open.data.toList.drop 0) = true := by decide +kernel
theorem dX12_open_0 : decode cX12_open 0 = .ok (.aload_n 0, 1) := dzr zhdX12_open_0 0 rfl
theorem dX12_open_1 : decode cX12_open 1 = .ok (.iload_n 1, 1) := dzr zhdX12_open_0 1 rfl
theorem dX12_open_2 : decode cX12_open 2 = .ok (.putfield 116, 3) := dzr zhdX12_open_0 2 rfl
theorem dX12_open_5 : decode cX12_open 5 = .ok (.aload_n 0, 1) := dzr zhdX12_open_0 3 rfl
theorem dX12_open_6 : decode cX12_open 6 = .ok (.iconst 0, 1) := dzr zhdX12_open_0 4 rfl
theorem dX12_open_7 : decode cX12_open 7 = .ok (.putfield 106, 3) := dzr zhdX12_open_0 5 rfl
theorem dX12_open_10 : decode cX12_open 10 = .ok (.aload_n 0, 1) := dzr zhdX12_open_0 6 rfl
theorem dX12_open_11 : decode cX12_open 11 = .ok (.iconst (-1), 1) := dzr zhdX12_open_0 7 rfl
theorem dX12_open_12 : decode cX12_open 12 = .ok (.putfield 113, 3) := dzr zhdX12_open_0 8 rfl
theorem dX12_open_15 : decode cX12_open 15 = .ok (.aload_n 0, 1) := dzr zhdX12_open_0 9 rfl
theorem dX12_open_16 : decode cX12_open 16 = .ok (.iconst 0, 1) := dzr zhdX12_open_0 10 rfl
theorem dX12_open_17 : decode cX12_open 17 = .ok (.putfield 119, 3) := dzr zhdX12_open_0 11 rfl
theorem dX12_open_20 : decode cX12_open 20 = .ok (.aload_n 0, 1) := dzr zhdX12_open_0 12 rfl
theorem dX12_open_21 : decode cX12_open 21 = .ok (.getfield 19, 3) := dzr zhdX12_open_0 13 rfl
theorem dX12_open_24 : decode cX12_open 24 = .ok (.iload_n 1, 1) := dzr zhdX12_open_0 14 rfl
theorem dX12_open_25 : decode cX12_open 25 = .ok (.iconst 0, 1) := dzr zhdX12_open_0 15 rfl
theorem dX12_open_26 : decode cX12_open 26 = .ok (.iastore, 1) := dzr zhdX12_open_0 16 rfl
theorem dX12_open_27 : decode cX12_open 27 = .ok (.aload_n 0, 1) := dzr zhdX12_open_0 17 rfl
theorem dX12_open_28 : decode cX12_open 28 = .ok (.getfield 22, 3) := dzr zhdX12_open_0 18 rfl
theorem dX12_open_31 : decode cX12_open 31 = .ok (.iload_n 1, 1) := dzr zhdX12_open_0 19 rfl
theorem dX12_open_32 : decode cX12_open 32 = .ok (.iconst 0, 1) := dzr zhdX12_open_0 20 rfl
theorem dX12_open_33 : decode cX12_open 33 = .ok (.iastore, 1) := dzr zhdX12_open_0 21 rfl
theorem dX12_open_34 : decode cX12_open 34 = .ok (.return_, 1) := dzr zhdX12_open_0 22 rfl
theorem ggX12_atEnd_X12_look : GoodIn wsX12_atEnd wsX12_look := (bg_up (bg_law (bi_wsL_law0_r15 _ (List.mem_of_getElem? (i := 14) rfl))))
theorem gX12_atEnd_X12_look : GoodIn wsX12_atEnd (wsV RX12 125 RX12 yX12_look wsX12_look) := goodIn_app (bg_up (bg_cons (bi_wsL_law0_r15 _ (List.mem_of_getElem? (i := 11) rfl)) (bg_cons (bi_wsL_law0_r15 _ (List.mem_of_getElem? (i := 12) rfl)) (bg_cons (bi_wsL_law0_r15 _ (List.mem_of_getElem? (i := 13) rfl)) (bg_cons (bi_wsL_law0_r1 _ (List.mem_of_getElem? (i := 5) rfl)) bg_nil))))) (bg_up (bg_law (bi_wsL_law0_r15 _ (List.mem_of_getElem? (i := 14) rfl))))
theorem ggX12_atEnd_X12_bad : GoodIn wsX12_atEnd wsX12_bad := (bg_up (bg_law (bi_wsL_law0_r16 _ (List.mem_of_getElem? (i := 18) rfl))))
theorem gX12_atEnd_X12_bad : GoodIn wsX12_atEnd (wsV RX12 122 RX12 yX12_bad wsX12_bad) := goodIn_app (bg_up (bg_cons (bi_wsL_law0_r16 _ (List.mem_of_getElem? (i := 15) rfl)) (bg_cons (bi_wsL_law0_r16 _ (List.mem_of_getElem? (i := 16) rfl)) (bg_cons (bi_wsL_law0_r16 _ (List.mem_of_getElem? (i := 17) rfl)) (bg_cons (bi_wsL_law0_r1 _ (List.mem_of_getElem? (i := 5) rfl)) bg_nil))))) (bg_up (bg_law (bi_wsL_law0_r16 _ (List.mem_of_getElem? (i := 18) rfl))))
def ztdX12_atEnd_0 : List (Nat × Instr × Nat) := [(0, .aload_n 0, 1), (1, .getfield 113, 3), (4, .iconst (-1), 1), (5, .if_icmp .ne 15, 3), (8, .aload_n 0, 1), (9, .invokevirtual 125, 3), (12, .iconst (-1), 1), (13, .if_icmp .eq 7, 3), (16, .aload_n 0, 1), (17, .invokevirtual 122, 3), (20, .aload_n 0, 1), (21, .getfield 113, 3), (24, .ireturn, 1)]
theorem zhdX12_atEnd_0 : dzC ztdX12_atEnd_0 0 (cX12_atEnd.data.toList.drop 0) = true := by decide +kernel
theorem dX12_atEnd_0 : decode cX12_atEnd 0 = .ok (.aload_n 0, 1) := dzr zhdX12_atEnd_0 0 rfl
theorem dX12_atEnd_1 : decode cX12_atEnd 1 = .ok (.getfield 113, 3) := dzr zhdX12_atEnd_0 1 rfl
theorem dX12_atEnd_4 : decode cX12_atEnd 4 = .ok (.iconst (-1), 1) := dzr zhdX12_atEnd_0 2 rfl
theorem dX12_atEnd_5 : decode cX12_atEnd 5 = .ok (.if_icmp .ne 15, 3) := dzr zhdX12_atEnd_0 3 rfl
theorem dX12_atEnd_8 : decode cX12_atEnd 8 = .ok (.aload_n 0, 1) := dzr zhdX12_atEnd_0 4 rfl
theorem dX12_atEnd_9 : decode cX12_atEnd 9 = .ok (.invokevirtual 125, 3) := dzr zhdX12_atEnd_0 5 rfl
theorem dX12_atEnd_12 : decode cX12_atEnd 12 = .ok (.iconst (-1), 1) := dzr zhdX12_atEnd_0 6 rfl
theorem dX12_atEnd_13 : decode cX12_atEnd 13 = .ok (.if_icmp .eq 7, 3) := dzr zhdX12_atEnd_0 7 rfl
theorem dX12_atEnd_16 : decode cX12_atEnd 16 = .ok (.aload_n 0, 1) := dzr zhdX12_atEnd_0 8 rfl
theorem dX12_atEnd_17 : decode cX12_atEnd 17 = .ok (.invokevirtual 122, 3) := dzr zhdX12_atEnd_0 9 rfl
theorem dX12_atEnd_20 : decode cX12_atEnd 20 = .ok (.aload_n 0, 1) := dzr zhdX12_atEnd_0 10 rfl
theorem dX12_atEnd_21 : decode cX12_atEnd 21 = .ok (.getfield 113, 3) := dzr zhdX12_atEnd_0 11 rfl
theorem dX12_atEnd_24 : decode cX12_atEnd 24 = .ok (.ireturn, 1) := dzr zhdX12_atEnd_0 12 rfl
theorem ggX12_readLaw_X12_open : GoodIn wsX12_readLaw wsX12_open := (bg_up (bg_law (bi_wsL_law0_r17 _ (List.mem_of_getElem? (i := 9) rfl))))
theorem gX12_readLaw_X12_open : GoodIn wsX12_readLaw (wsV RX12 177 RX12 yX12_open wsX12_open) := goodIn_app (bg_up (bg_cons (bi_wsL_law0_r17 _ (List.mem_of_getElem? (i := 6) rfl)) (bg_cons (bi_wsL_law0_r17 _ (List.mem_of_getElem? (i := 7) rfl)) (bg_cons (bi_wsL_law0_r17 _ (List.mem_of_getElem? (i := 8) rfl)) (bg_cons (bi_wsL_law0_r1 _ (List.mem_of_getElem? (i := 5) rfl)) bg_nil))))) (bg_up (bg_law (bi_wsL_law0_r17 _ (List.mem_of_getElem? (i := 9) rfl))))
theorem ggX12_readLaw_X12_clause : GoodIn wsX12_readLaw wsX12_clause := (bg_up (bg_law (bi_wsL_law0_r17 _ (List.mem_of_getElem? (i := 15) rfl))))
theorem gX12_readLaw_X12_clause : GoodIn wsX12_readLaw (wsV RX12 180 RX12 yX12_clause wsX12_clause) := goodIn_app (bg_up (bg_cons (bi_wsL_law0_r17 _ (List.mem_of_getElem? (i := 12) rfl)) (bg_cons (bi_wsL_law0_r17 _ (List.mem_of_getElem? (i := 13) rfl)) (bg_cons (bi_wsL_law0_r17 _ (List.mem_of_getElem? (i := 14) rfl)) (bg_cons (bi_wsL_law0_r1 _ (List.mem_of_getElem? (i := 5) rfl)) bg_nil))))) (bg_up (bg_law (bi_wsL_law0_r17 _ (List.mem_of_getElem? (i := 15) rfl))))
theorem ggX12_readLaw_X12_look : GoodIn wsX12_readLaw wsX12_look := (bg_up (bg_law (bi_wsL_law0_r15 _ (List.mem_of_getElem? (i := 14) rfl))))
theorem gX12_readLaw_X12_look : GoodIn wsX12_readLaw (wsV RX12 125 RX12 yX12_look wsX12_look) := goodIn_app (bg_up (bg_cons (bi_wsL_law0_r15 _ (List.mem_of_getElem? (i := 11) rfl)) (bg_cons (bi_wsL_law0_r15 _ (List.mem_of_getElem? (i := 12) rfl)) (bg_cons (bi_wsL_law0_r15 _ (List.mem_of_getElem? (i := 13) rfl)) (bg_cons (bi_wsL_law0_r1 _ (List.mem_of_getElem? (i := 5) rfl)) bg_nil))))) (bg_up (bg_law (bi_wsL_law0_r15 _ (List.mem_of_getElem? (i := 14) rfl))))
theorem ggX12_readLaw_X12_atEnd : GoodIn wsX12_readLaw wsX12_atEnd := (bg_up (bg_law (bi_wsL_law0_r20 _ (List.mem_of_getElem? (i := 1) rfl))))
theorem gX12_readLaw_X12_atEnd : GoodIn wsX12_readLaw (wsV RX12 183 RX12 yX12_atEnd wsX12_atEnd) := goodIn_app (bg_up (bg_cons (bi_wsL_law0_r19 _ (List.mem_of_getElem? (i := 22) rfl)) (bg_cons (bi_wsL_law0_r19 _ (List.mem_of_getElem? (i := 23) rfl)) (bg_cons (bi_wsL_law0_r20 _ (List.mem_of_getElem? (i := 0) rfl)) (bg_cons (bi_wsL_law0_r1 _ (List.mem_of_getElem? (i := 5) rfl)) bg_nil))))) (bg_up (bg_law (bi_wsL_law0_r20 _ (List.mem_of_getElem? (i := 1) rfl))))
def ztdX12_readLaw_0 : List (Nat × Instr × Nat) := [(0, .aload_n 0, 1), (1, .iload_n 1, 1), (2, .invokevirtual 177, 3), (5, .aload_n 0, 1), (6, .invokevirtual 180, 3), (9, .aload_n 0, 1), (10, .getfield 113, 3), (13, .iconst (-1), 1), (14, .if_icmp .ne 29, 3), (17, .aload_n 0, 1), (18, .invokevirtual 125, 3), (21, .bipush 59, 2), (23, .if_icmp .ne 20, 3), (26, .aload_n 0, 1), (27, .dup, 1), (28, .getfield 106, 3), (31, .iconst 1, 1), (32, .iadd, 1), (33, .putfield 106, 3), (36, .aload_n 0, 1), (37, .invokevirtual 180, 3), (40, .goto (-31), 3), (43, .aload_n 0, 1), (44, .invokevirtual 183, 3)]
theorem zhdX12_readLaw_0 : dzC ztdX12_readLaw_0 0 (cX12_readLaw.data.toList.drop 0) = true := by decide +kernel
theorem dX12_readLaw_0 : decode cX12_readLaw 0 = .ok (.aload_n 0, 1) := dzr zhdX12_readLaw_0 0 rfl
theorem dX12_readLaw_1 : decode cX12_readLaw 1 = .ok (.iload_n 1, 1) := dzr zhdX12_readLaw_0 1 rfl
theorem dX12_readLaw_2 : decode cX12_readLaw 2 = .ok (.invokevirtual 177, 3) := dzr zhdX12_readLaw_0 2 rfl
theorem dX12_readLaw_5 : decode cX12_readLaw 5 = .ok (.aload_n 0, 1) := dzr zhdX12_readLaw_0 3 rfl
theorem dX12_readLaw_6 : decode cX12_readLaw 6 = .ok (.invokevirtual 180, 3) := dzr zhdX12_readLaw_0 4 rfl
theorem dX12_readLaw_9 : decode cX12_readLaw 9 = .ok (.aload_n 0, 1) := dzr zhdX12_readLaw_0 5 rfl
theorem dX12_readLaw_10 : decode cX12_readLaw 10 = .ok (.getfield 113, 3) := dzr zhdX12_readLaw_0 6 rfl
theorem dX12_readLaw_13 : decode cX12_readLaw 13 = .ok (.iconst (-1), 1) := dzr zhdX12_readLaw_0 7 rfl
theorem dX12_readLaw_14 : decode cX12_readLaw 14 = .ok (.if_icmp .ne 29, 3) := dzr zhdX12_readLaw_0 8 rfl
theorem dX12_readLaw_17 : decode cX12_readLaw 17 = .ok (.aload_n 0, 1) := dzr zhdX12_readLaw_0 9 rfl
theorem dX12_readLaw_18 : decode cX12_readLaw 18 = .ok (.invokevirtual 125, 3) := dzr zhdX12_readLaw_0 10 rfl
theorem dX12_readLaw_21 : decode cX12_readLaw 21 = .ok (.bipush 59, 2) := dzr zhdX12_readLaw_0 11 rfl
theorem dX12_readLaw_23 : decode cX12_readLaw 23 = .ok (.if_icmp .ne 20, 3) := dzr zhdX12_readLaw_0 12 rfl
theorem dX12_readLaw_26 : decode cX12_readLaw 26 = .ok (.aload_n 0, 1) := dzr zhdX12_readLaw_0 13 rfl
theorem dX12_readLaw_27 : decode cX12_readLaw 27 = .ok (.dup, 1) := dzr zhdX12_readLaw_0 14 rfl
theorem dX12_readLaw_28 : decode cX12_readLaw 28 = .ok (.getfield 106, 3) := dzr zhdX12_readLaw_0 15 rfl
theorem dX12_readLaw_31 : decode cX12_readLaw 31 = .ok (.iconst 1, 1) := dzr zhdX12_readLaw_0 16 rfl
theorem dX12_readLaw_32 : decode cX12_readLaw 32 = .ok (.iadd, 1) := dzr zhdX12_readLaw_0 17 rfl
theorem dX12_readLaw_33 : decode cX12_readLaw 33 = .ok (.putfield 106, 3) := dzr zhdX12_readLaw_0 18 rfl
theorem dX12_readLaw_36 : decode cX12_readLaw 36 = .ok (.aload_n 0, 1) := dzr zhdX12_readLaw_0 19 rfl
theorem dX12_readLaw_37 : decode cX12_readLaw 37 = .ok (.invokevirtual 180, 3) := dzr zhdX12_readLaw_0 20 rfl
theorem dX12_readLaw_40 : decode cX12_readLaw 40 = .ok (.goto (-31), 3) := dzr zhdX12_readLaw_0 21 rfl
theorem dX12_readLaw_43 : decode cX12_readLaw 43 = .ok (.aload_n 0, 1) := dzr zhdX12_readLaw_0 22 rfl
theorem dX12_readLaw_44 : decode cX12_readLaw 44 = .ok (.invokevirtual 183, 3) := dzr zhdX12_readLaw_0 23 rfl
def ztdX12_readLaw_47 : List (Nat × Instr × Nat) := [(47, .ireturn, 1)]
theorem zhdX12_readLaw_47 : dzC ztdX12_readLaw_47 47 (cX12_readLaw.data.toList.drop 47) = true := by decide +kernel
theorem dX12_readLaw_47 : decode cX12_readLaw 47 = .ok (.ireturn, 1) := dzr zhdX12_readLaw_47 0 rfl
def ztdX12_bounded_0 : List (Nat × Instr × Nat) := [(0, .ldc2_w 186, 3), (3, .ldc2_w 188, 3), (6, .lload_n 0, 1), (7, .invokestatic 190, 3), (10, .invokestatic 196, 3), (13, .l2i, 1), (14, .ireturn, 1)]
theorem zhdX12_bounded_0 : dzC ztdX12_bounded_0 0 (cX12_bounded.data.toList.drop 0) = true := by decide +kernel
theorem dX12_bounded_0 : decode cX12_bounded 0 = .ok (.ldc2_w 186, 3) := dzr zhdX12_bounded_0 0 rfl
theorem dX12_bounded_3 : decode cX12_bounded 3 = .ok (.ldc2_w 188, 3) := dzr zhdX12_bounded_0 1 rfl
theorem dX12_bounded_6 : decode cX12_bounded 6 = .ok (.lload_n 0, 1) := dzr zhdX12_bounded_0 2 rfl
theorem dX12_bounded_7 : decode cX12_bounded 7 = .ok (.invokestatic 190, 3) := dzr zhdX12_bounded_0 3 rfl
theorem dX12_bounded_10 : decode cX12_bounded 10 = .ok (.invokestatic 196, 3) := dzr zhdX12_bounded_0 4 rfl
theorem dX12_bounded_13 : decode cX12_bounded 13 = .ok (.l2i, 1) := dzr zhdX12_bounded_0 5 rfl
theorem dX12_bounded_14 : decode cX12_bounded 14 = .ok (.ireturn, 1) := dzr zhdX12_bounded_0 6 rfl
theorem ggX12_worked_X12_bounded : GoodIn wsX12_worked wsX12_bounded := (bg_up (bg_law (bi_wsL_law0_r33 _ (List.mem_of_getElem? (i := 8) rfl))))
theorem gX12_worked_X12_bounded : GoodIn wsX12_worked (va_wsS RX12 199 yX12_bounded wsX12_bounded) := goodIn_app (bg_up (bg_cons (bi_wsL_law0_r33 _ (List.mem_of_getElem? (i := 6) rfl)) (bg_cons (bi_wsL_law0_r33 _ (List.mem_of_getElem? (i := 7) rfl)) (bg_cons (bi_wsL_law0_r1 _ (List.mem_of_getElem? (i := 5) rfl)) bg_nil)))) (bg_up (bg_law (bi_wsL_law0_r33 _ (List.mem_of_getElem? (i := 8) rfl))))
theorem dX12_worked_1 : decode cX12_worked 1 = .ok (.tableswitch 143 2 10 #[51, 58, 65, 72, 89, 101, 113, 143, 125], 51) := by decide +kernel
def ztdX12_worked_0 : List (Nat × Instr × Nat) := [(0, .iload_n 0, 1), (52, .lload_n 1, 1), (53, .lload_n 3, 1), (54, .ladd, 1), (55, .invokestatic 199, 3), (58, .ireturn, 1), (59, .lload_n 1, 1), (60, .lload_n 3, 1), (61, .lsub, 1), (62, .invokestatic 199, 3), (65, .ireturn, 1), (66, .lload_n 1, 1), (67, .lload_n 3, 1), (68, .lmul, 1), (69, .invokestatic 199, 3), (72, .ireturn, 1), (73, .lload_n 3, 1), (74, .lconst 0, 1), (75, .lcmp, 1), (76, .ifCond .ne 7, 3), (79, .iconst 0, 1), (80, .goto 9, 3), (83, .lload_n 1, 1), (84, .lload_n 3, 1)]
theorem zhdX12_worked_0 : dzC ztdX12_worked_0 0 (cX12_worked.data.toList.drop 0) = true := by decide +kernel
theorem dX12_worked_0 : decode cX12_worked 0 = .ok (.iload_n 0, 1) := dzr zhdX12_worked_0 0 rfl
theorem dX12_worked_52 : decode cX12_worked 52 = .ok (.lload_n 1, 1) := dzr zhdX12_worked_0 1 rfl
theorem dX12_worked_53 : decode cX12_worked 53 = .ok (.lload_n 3, 1) := dzr zhdX12_worked_0 2 rfl
theorem dX12_worked_54 : decode cX12_worked 54 = .ok (.ladd, 1) := dzr zhdX12_worked_0 3 rfl
theorem dX12_worked_55 : decode cX12_worked 55 = .ok (.invokestatic 199, 3) := dzr zhdX12_worked_0 4 rfl
theorem dX12_worked_58 : decode cX12_worked 58 = .ok (.ireturn, 1) := dzr zhdX12_worked_0 5 rfl
theorem dX12_worked_59 : decode cX12_worked 59 = .ok (.lload_n 1, 1) := dzr zhdX12_worked_0 6 rfl
theorem dX12_worked_60 : decode cX12_worked 60 = .ok (.lload_n 3, 1) := dzr zhdX12_worked_0 7 rfl
theorem dX12_worked_61 : decode cX12_worked 61 = .ok (.lsub, 1) := dzr zhdX12_worked_0 8 rfl
theorem dX12_worked_62 : decode cX12_worked 62 = .ok (.invokestatic 199, 3) := dzr zhdX12_worked_0 9 rfl
theorem dX12_worked_65 : decode cX12_worked 65 = .ok (.ireturn, 1) := dzr zhdX12_worked_0 10 rfl
theorem dX12_worked_66 : decode cX12_worked 66 = .ok (.lload_n 1, 1) := dzr zhdX12_worked_0 11 rfl
theorem dX12_worked_67 : decode cX12_worked 67 = .ok (.lload_n 3, 1) := dzr zhdX12_worked_0 12 rfl
theorem dX12_worked_68 : decode cX12_worked 68 = .ok (.lmul, 1) := dzr zhdX12_worked_0 13 rfl
theorem dX12_worked_69 : decode cX12_worked 69 = .ok (.invokestatic 199, 3) := dzr zhdX12_worked_0 14 rfl
theorem dX12_worked_72 : decode cX12_worked 72 = .ok (.ireturn, 1) := dzr zhdX12_worked_0 15 rfl
theorem dX12_worked_73 : decode cX12_worked 73 = .ok (.lload_n 3, 1) := dzr zhdX12_worked_0 16 rfl
theorem dX12_worked_74 : decode cX12_worked 74 = .ok (.lconst 0, 1) := dzr zhdX12_worked_0 17 rfl
theorem dX12_worked_75 : decode cX12_worked 75 = .ok (.lcmp, 1) := dzr zhdX12_worked_0 18 rfl
theorem dX12_worked_76 : decode cX12_worked 76 = .ok (.ifCond .ne 7, 3) := dzr zhdX12_worked_0 19 rfl
theorem dX12_worked_79 : decode cX12_worked 79 = .ok (.iconst 0, 1) := dzr zhdX12_worked_0 20 rfl
theorem dX12_worked_80 : decode cX12_worked 80 = .ok (.goto 9, 3) := dzr zhdX12_worked_0 21 rfl
theorem dX12_worked_83 : decode cX12_worked 83 = .ok (.lload_n 1, 1) := dzr zhdX12_worked_0 22 rfl
theorem dX12_worked_84 : decode cX12_worked 84 = .ok (.lload_n 3, 1) := dzr zhdX12_worked_0 23 rfl
def ztdX12_worked_85 : List (Nat × Instr × Nat) := [(85, .ldiv, 1), (86, .invokestatic 199, 3), (89, .ireturn, 1), (90, .lload_n 1, 1), (91, .lload_n 3, 1), (92, .lcmp, 1), (93, .ifCond .ne 7, 3), (96, .iconst 1, 1), (97, .goto 4, 3), (100, .iconst 0, 1), (101, .ireturn, 1), (102, .lload_n 1, 1), (103, .lload_n 3, 1), (104, .lcmp, 1), (105, .ifCond .ge 7, 3), (108, .iconst 1, 1), (109, .goto 4, 3), (112, .iconst 0, 1), (113, .ireturn, 1), (114, .lload_n 1, 1), (115, .lload_n 3, 1), (116, .lcmp, 1), (117, .ifCond .le 7, 3), (120, .iconst 1, 1)]
theorem zhdX12_worked_85 : dzC ztdX12_worked_85 85 (cX12_worked.data.toList.drop 85) = true := by decide +kernel
theorem dX12_worked_85 : decode cX12_worked 85 = .ok (.ldiv, 1) := dzr zhdX12_worked_85 0 rfl
theorem dX12_worked_86 : decode cX12_worked 86 = .ok (.invokestatic 199, 3) := dzr zhdX12_worked_85 1 rfl
theorem dX12_worked_89 : decode cX12_worked 89 = .ok (.ireturn, 1) := dzr zhdX12_worked_85 2 rfl
theorem dX12_worked_90 : decode cX12_worked 90 = .ok (.lload_n 1, 1) := dzr zhdX12_worked_85 3 rfl
theorem dX12_worked_91 : decode cX12_worked 91 = .ok (.lload_n 3, 1) := dzr zhdX12_worked_85 4 rfl
theorem dX12_worked_92 : decode cX12_worked 92 = .ok (.lcmp, 1) := dzr zhdX12_worked_85 5 rfl
theorem dX12_worked_93 : decode cX12_worked 93 = .ok (.ifCond .ne 7, 3) := dzr zhdX12_worked_85 6 rfl
theorem dX12_worked_96 : decode cX12_worked 96 = .ok (.iconst 1, 1) := dzr zhdX12_worked_85 7 rfl
theorem dX12_worked_97 : decode cX12_worked 97 = .ok (.goto 4, 3) := dzr zhdX12_worked_85 8 rfl
theorem dX12_worked_100 : decode cX12_worked 100 = .ok (.iconst 0, 1) := dzr zhdX12_worked_85 9 rfl
theorem dX12_worked_101 : decode cX12_worked 101 = .ok (.ireturn, 1) := dzr zhdX12_worked_85 10 rfl
theorem dX12_worked_102 : decode cX12_worked 102 = .ok (.lload_n 1, 1) := dzr zhdX12_worked_85 11 rfl
theorem dX12_worked_103 : decode cX12_worked 103 = .ok (.lload_n 3, 1) := dzr zhdX12_worked_85 12 rfl
theorem dX12_worked_104 : decode cX12_worked 104 = .ok (.lcmp, 1) := dzr zhdX12_worked_85 13 rfl
theorem dX12_worked_105 : decode cX12_worked 105 = .ok (.ifCond .ge 7, 3) := dzr zhdX12_worked_85 14 rfl
theorem dX12_worked_108 : decode cX12_worked 108 = .ok (.iconst 1, 1) := dzr zhdX12_worked_85 15 rfl
theorem dX12_worked_109 : decode cX12_worked 109 = .ok (.goto 4, 3) := dzr zhdX12_worked_85 16 rfl
theorem dX12_worked_112 : decode cX12_worked 112 = .ok (.iconst 0, 1) := dzr zhdX12_worked_85 17 rfl
theorem dX12_worked_113 : decode cX12_worked 113 = .ok (.ireturn, 1) := dzr zhdX12_worked_85 18 rfl
theorem dX12_worked_114 : decode cX12_worked 114 = .ok (.lload_n 1, 1) := dzr zhdX12_worked_85 19 rfl
theorem dX12_worked_115 : decode cX12_worked 115 = .ok (.lload_n 3, 1) := dzr zhdX12_worked_85 20 rfl
theorem dX12_worked_116 : decode cX12_worked 116 = .ok (.lcmp, 1) := dzr zhdX12_worked_85 21 rfl
theorem dX12_worked_117 : decode cX12_worked 117 = .ok (.ifCond .le 7, 3) := dzr zhdX12_worked_85 22 rfl
theorem dX12_worked_120 : decode cX12_worked 120 = .ok (.iconst 1, 1) := dzr zhdX12_worked_85 23 rfl
def ztdX12_worked_121 : List (Nat × Instr × Nat) := [(121, .goto 4, 3), (124, .iconst 0, 1), (125, .ireturn, 1), (126, .lload_n 1, 1), (127, .lconst 0, 1), (128, .lcmp, 1), (129, .ifCond .eq 13, 3), (132, .lload_n 3, 1), (133, .lconst 0, 1), (134, .lcmp, 1), (135, .ifCond .eq 7, 3), (138, .iconst 1, 1), (139, .goto 4, 3), (142, .iconst 0, 1), (143, .ireturn, 1), (144, .lload_n 1, 1), (145, .lconst 0, 1), (146, .lcmp, 1), (147, .ifCond .ne 9, 3), (150, .lload_n 3, 1), (151, .lconst 0, 1), (152, .lcmp, 1), (153, .ifCond .eq 7, 3), (156, .iconst 1, 1)]
theorem zhdX12_worked_121 : dzC ztdX12_worked_121 121 (cX12_worked.data.toList.drop 121) = true := by decide +kernel
theorem dX12_worked_121 : decode cX12_worked 121 = .ok (.goto 4, 3) := dzr zhdX12_worked_121 0 rfl
theorem dX12_worked_124 : decode cX12_worked 124 = .ok (.iconst 0, 1) := dzr zhdX12_worked_121 1 rfl
theorem dX12_worked_125 : decode cX12_worked 125 = .ok (.ireturn, 1) := dzr zhdX12_worked_121 2 rfl
theorem dX12_worked_126 : decode cX12_worked 126 = .ok (.lload_n 1, 1) := dzr zhdX12_worked_121 3 rfl
theorem dX12_worked_127 : decode cX12_worked 127 = .ok (.lconst 0, 1) := dzr zhdX12_worked_121 4 rfl
theorem dX12_worked_128 : decode cX12_worked 128 = .ok (.lcmp, 1) := dzr zhdX12_worked_121 5 rfl
theorem dX12_worked_129 : decode cX12_worked 129 = .ok (.ifCond .eq 13, 3) := dzr zhdX12_worked_121 6 rfl
theorem dX12_worked_132 : decode cX12_worked 132 = .ok (.lload_n 3, 1) := dzr zhdX12_worked_121 7 rfl
theorem dX12_worked_133 : decode cX12_worked 133 = .ok (.lconst 0, 1) := dzr zhdX12_worked_121 8 rfl
theorem dX12_worked_134 : decode cX12_worked 134 = .ok (.lcmp, 1) := dzr zhdX12_worked_121 9 rfl
theorem dX12_worked_135 : decode cX12_worked 135 = .ok (.ifCond .eq 7, 3) := dzr zhdX12_worked_121 10 rfl
theorem dX12_worked_138 : decode cX12_worked 138 = .ok (.iconst 1, 1) := dzr zhdX12_worked_121 11 rfl
theorem dX12_worked_139 : decode cX12_worked 139 = .ok (.goto 4, 3) := dzr zhdX12_worked_121 12 rfl
theorem dX12_worked_142 : decode cX12_worked 142 = .ok (.iconst 0, 1) := dzr zhdX12_worked_121 13 rfl
theorem dX12_worked_143 : decode cX12_worked 143 = .ok (.ireturn, 1) := dzr zhdX12_worked_121 14 rfl
theorem dX12_worked_144 : decode cX12_worked 144 = .ok (.lload_n 1, 1) := dzr zhdX12_worked_121 15 rfl
theorem dX12_worked_145 : decode cX12_worked 145 = .ok (.lconst 0, 1) := dzr zhdX12_worked_121 16 rfl
theorem dX12_worked_146 : decode cX12_worked 146 = .ok (.lcmp, 1) := dzr zhdX12_worked_121 17 rfl
theorem dX12_worked_147 : decode cX12_worked 147 = .ok (.ifCond .ne 9, 3) := dzr zhdX12_worked_121 18 rfl
theorem dX12_worked_150 : decode cX12_worked 150 = .ok (.lload_n 3, 1) := dzr zhdX12_worked_121 19 rfl
theorem dX12_worked_151 : decode cX12_worked 151 = .ok (.lconst 0, 1) := dzr zhdX12_worked_121 20 rfl
theorem dX12_worked_152 : decode cX12_worked 152 = .ok (.lcmp, 1) := dzr zhdX12_worked_121 21 rfl
theorem dX12_worked_153 : decode cX12_worked 153 = .ok (.ifCond .eq 7, 3) := dzr zhdX12_worked_121 22 rfl
theorem dX12_worked_156 : decode cX12_worked 156 = .ok (.iconst 1, 1) := dzr zhdX12_worked_121 23 rfl
def ztdX12_worked_157 : List (Nat × Instr × Nat) := [(157, .goto 4, 3), (160, .iconst 0, 1), (161, .ireturn, 1)]
theorem zhdX12_worked_157 : dzC ztdX12_worked_157 157 (cX12_worked.data.toList.drop 157) = true := by decide +kernel
theorem dX12_worked_157 : decode cX12_worked 157 = .ok (.goto 4, 3) := dzr zhdX12_worked_157 0 rfl
theorem dX12_worked_160 : decode cX12_worked 160 = .ok (.iconst 0, 1) := dzr zhdX12_worked_157 1 rfl
theorem dX12_worked_161 : decode cX12_worked 161 = .ok (.ireturn, 1) := dzr zhdX12_worked_157 2 rfl
theorem ggX12_workOut_X12_worked : GoodIn wsX12_workOut wsX12_worked := (bg_up (bg_law (bi_wsL_law0_r33 _ (List.mem_of_getElem? (i := 5) rfl))))
theorem gX12_workOut_X12_worked : GoodIn wsX12_workOut (va_wsS RX12 203 yX12_worked wsX12_worked) := goodIn_app (bg_up (bg_cons (bi_wsL_law0_r33 _ (List.mem_of_getElem? (i := 3) rfl)) (bg_cons (bi_wsL_law0_r33 _ (List.mem_of_getElem? (i := 4) rfl)) (bg_cons (bi_wsL_law0_r1 _ (List.mem_of_getElem? (i := 5) rfl)) bg_nil)))) (bg_up (bg_law (bi_wsL_law0_r33 _ (List.mem_of_getElem? (i := 5) rfl))))
def ztdX12_workOut_0 : List (Nat × Instr × Nat) := [(0, .iconst 0, 1), (1, .istore 4, 2), (3, .sipush 520, 3), (6, .iload_n 1, 1), (7, .imul, 1), (8, .iload_n 2, 1), (9, .iadd, 1), (10, .istore 5, 2), (12, .iload 5, 2), (14, .sipush 520, 3), (17, .iload_n 1, 1), (18, .imul, 1), (19, .iload_n 3, 1), (20, .iadd, 1), (21, .if_icmp .ge 150, 3), (24, .aload_n 0, 1), (25, .getfield 13, 3), (28, .iload 5, 2), (30, .iaload, 1), (31, .ifCond .eq 14, 3), (34, .aload_n 0, 1), (35, .getfield 13, 3), (38, .iload 5, 2), (40, .iaload, 1)]
theorem zhdX12_workOut_0 : dzC ztdX12_workOut_0 0 (cX12_workOut.data.toList.drop 0) = true := by decide +kernel
theorem dX12_workOut_0 : decode cX12_workOut 0 = .ok (.iconst 0, 1) := dzr zhdX12_workOut_0 0 rfl
theorem dX12_workOut_1 : decode cX12_workOut 1 = .ok (.istore 4, 2) := dzr zhdX12_workOut_0 1 rfl
theorem dX12_workOut_3 : decode cX12_workOut 3 = .ok (.sipush 520, 3) := dzr zhdX12_workOut_0 2 rfl
theorem dX12_workOut_6 : decode cX12_workOut 6 = .ok (.iload_n 1, 1) := dzr zhdX12_workOut_0 3 rfl
theorem dX12_workOut_7 : decode cX12_workOut 7 = .ok (.imul, 1) := dzr zhdX12_workOut_0 4 rfl
theorem dX12_workOut_8 : decode cX12_workOut 8 = .ok (.iload_n 2, 1) := dzr zhdX12_workOut_0 5 rfl
theorem dX12_workOut_9 : decode cX12_workOut 9 = .ok (.iadd, 1) := dzr zhdX12_workOut_0 6 rfl
theorem dX12_workOut_10 : decode cX12_workOut 10 = .ok (.istore 5, 2) := dzr zhdX12_workOut_0 7 rfl
theorem dX12_workOut_12 : decode cX12_workOut 12 = .ok (.iload 5, 2) := dzr zhdX12_workOut_0 8 rfl
theorem dX12_workOut_14 : decode cX12_workOut 14 = .ok (.sipush 520, 3) := dzr zhdX12_workOut_0 9 rfl
theorem dX12_workOut_17 : decode cX12_workOut 17 = .ok (.iload_n 1, 1) := dzr zhdX12_workOut_0 10 rfl
theorem dX12_workOut_18 : decode cX12_workOut 18 = .ok (.imul, 1) := dzr zhdX12_workOut_0 11 rfl
theorem dX12_workOut_19 : decode cX12_workOut 19 = .ok (.iload_n 3, 1) := dzr zhdX12_workOut_0 12 rfl
theorem dX12_workOut_20 : decode cX12_workOut 20 = .ok (.iadd, 1) := dzr zhdX12_workOut_0 13 rfl
theorem dX12_workOut_21 : decode cX12_workOut 21 = .ok (.if_icmp .ge 150, 3) := dzr zhdX12_workOut_0 14 rfl
theorem dX12_workOut_24 : decode cX12_workOut 24 = .ok (.aload_n 0, 1) := dzr zhdX12_workOut_0 15 rfl
theorem dX12_workOut_25 : decode cX12_workOut 25 = .ok (.getfield 13, 3) := dzr zhdX12_workOut_0 16 rfl
theorem dX12_workOut_28 : decode cX12_workOut 28 = .ok (.iload 5, 2) := dzr zhdX12_workOut_0 17 rfl
theorem dX12_workOut_30 : decode cX12_workOut 30 = .ok (.iaload, 1) := dzr zhdX12_workOut_0 18 rfl
theorem dX12_workOut_31 : decode cX12_workOut 31 = .ok (.ifCond .eq 14, 3) := dzr zhdX12_workOut_0 19 rfl
theorem dX12_workOut_34 : decode cX12_workOut 34 = .ok (.aload_n 0, 1) := dzr zhdX12_workOut_0 20 rfl
theorem dX12_workOut_35 : decode cX12_workOut 35 = .ok (.getfield 13, 3) := dzr zhdX12_workOut_0 21 rfl
theorem dX12_workOut_38 : decode cX12_workOut 38 = .ok (.iload 5, 2) := dzr zhdX12_workOut_0 22 rfl
theorem dX12_workOut_40 : decode cX12_workOut 40 = .ok (.iaload, 1) := dzr zhdX12_workOut_0 23 rfl
def ztdX12_workOut_41 : List (Nat × Instr × Nat) := [(41, .iconst 1, 1), (42, .if_icmp .ne 48, 3), (45, .aload_n 0, 1), (46, .getfield 37, 3), (49, .iload 4, 2), (51, .aload_n 0, 1), (52, .getfield 13, 3), (55, .iload 5, 2), (57, .iaload, 1), (58, .ifCond .ne 13, 3), (61, .aload_n 0, 1), (62, .getfield 16, 3), (65, .iload 5, 2), (67, .iaload, 1), (68, .goto 15, 3), (71, .aload_n 0, 1), (72, .getfield 34, 3), (75, .aload_n 0, 1), (76, .getfield 16, 3), (79, .iload 5, 2), (81, .iaload, 1), (82, .iaload, 1), (83, .iastore, 1), (84, .iinc 4 1, 3)]
theorem zhdX12_workOut_41 : dzC ztdX12_workOut_41 41 (cX12_workOut.data.toList.drop 41) = true := by decide +kernel
theorem dX12_workOut_41 : decode cX12_workOut 41 = .ok (.iconst 1, 1) := dzr zhdX12_workOut_41 0 rfl
theorem dX12_workOut_42 : decode cX12_workOut 42 = .ok (.if_icmp .ne 48, 3) := dzr zhdX12_workOut_41 1 rfl
theorem dX12_workOut_45 : decode cX12_workOut 45 = .ok (.aload_n 0, 1) := dzr zhdX12_workOut_41 2 rfl
theorem dX12_workOut_46 : decode cX12_workOut 46 = .ok (.getfield 37, 3) := dzr zhdX12_workOut_41 3 rfl
theorem dX12_workOut_49 : decode cX12_workOut 49 = .ok (.iload 4, 2) := dzr zhdX12_workOut_41 4 rfl
theorem dX12_workOut_51 : decode cX12_workOut 51 = .ok (.aload_n 0, 1) := dzr zhdX12_workOut_41 5 rfl
theorem dX12_workOut_52 : decode cX12_workOut 52 = .ok (.getfield 13, 3) := dzr zhdX12_workOut_41 6 rfl
theorem dX12_workOut_55 : decode cX12_workOut 55 = .ok (.iload 5, 2) := dzr zhdX12_workOut_41 7 rfl
theorem dX12_workOut_57 : decode cX12_workOut 57 = .ok (.iaload, 1) := dzr zhdX12_workOut_41 8 rfl
theorem dX12_workOut_58 : decode cX12_workOut 58 = .ok (.ifCond .ne 13, 3) := dzr zhdX12_workOut_41 9 rfl
theorem dX12_workOut_61 : decode cX12_workOut 61 = .ok (.aload_n 0, 1) := dzr zhdX12_workOut_41 10 rfl
theorem dX12_workOut_62 : decode cX12_workOut 62 = .ok (.getfield 16, 3) := dzr zhdX12_workOut_41 11 rfl
theorem dX12_workOut_65 : decode cX12_workOut 65 = .ok (.iload 5, 2) := dzr zhdX12_workOut_41 12 rfl
theorem dX12_workOut_67 : decode cX12_workOut 67 = .ok (.iaload, 1) := dzr zhdX12_workOut_41 13 rfl
theorem dX12_workOut_68 : decode cX12_workOut 68 = .ok (.goto 15, 3) := dzr zhdX12_workOut_41 14 rfl
theorem dX12_workOut_71 : decode cX12_workOut 71 = .ok (.aload_n 0, 1) := dzr zhdX12_workOut_41 15 rfl
theorem dX12_workOut_72 : decode cX12_workOut 72 = .ok (.getfield 34, 3) := dzr zhdX12_workOut_41 16 rfl
theorem dX12_workOut_75 : decode cX12_workOut 75 = .ok (.aload_n 0, 1) := dzr zhdX12_workOut_41 17 rfl
theorem dX12_workOut_76 : decode cX12_workOut 76 = .ok (.getfield 16, 3) := dzr zhdX12_workOut_41 18 rfl
theorem dX12_workOut_79 : decode cX12_workOut 79 = .ok (.iload 5, 2) := dzr zhdX12_workOut_41 19 rfl
theorem dX12_workOut_81 : decode cX12_workOut 81 = .ok (.iaload, 1) := dzr zhdX12_workOut_41 20 rfl
theorem dX12_workOut_82 : decode cX12_workOut 82 = .ok (.iaload, 1) := dzr zhdX12_workOut_41 21 rfl
theorem dX12_workOut_83 : decode cX12_workOut 83 = .ok (.iastore, 1) := dzr zhdX12_workOut_41 22 rfl
theorem dX12_workOut_84 : decode cX12_workOut 84 = .ok (.iinc 4 1, 3) := dzr zhdX12_workOut_41 23 rfl
def ztdX12_workOut_87 : List (Nat × Instr × Nat) := [(87, .goto 78, 3), (90, .aload_n 0, 1), (91, .getfield 13, 3), (94, .iload 5, 2), (96, .iaload, 1), (97, .bipush 9, 2), (99, .if_icmp .ne 26, 3), (102, .aload_n 0, 1), (103, .getfield 37, 3), (106, .iload 4, 2), (108, .iconst 1, 1), (109, .isub, 1), (110, .iconst 1, 1), (111, .aload_n 0, 1), (112, .getfield 37, 3), (115, .iload 4, 2), (117, .iconst 1, 1), (118, .isub, 1), (119, .iaload, 1), (120, .isub, 1), (121, .iastore, 1), (122, .goto 43, 3), (125, .iinc 4 (-1), 3), (128, .aload_n 0, 1)]
theorem zhdX12_workOut_87 : dzC ztdX12_workOut_87 87 (cX12_workOut.data.toList.drop 87) = true := by decide +kernel
theorem dX12_workOut_87 : decode cX12_workOut 87 = .ok (.goto 78, 3) := dzr zhdX12_workOut_87 0 rfl
theorem dX12_workOut_90 : decode cX12_workOut 90 = .ok (.aload_n 0, 1) := dzr zhdX12_workOut_87 1 rfl
theorem dX12_workOut_91 : decode cX12_workOut 91 = .ok (.getfield 13, 3) := dzr zhdX12_workOut_87 2 rfl
theorem dX12_workOut_94 : decode cX12_workOut 94 = .ok (.iload 5, 2) := dzr zhdX12_workOut_87 3 rfl
theorem dX12_workOut_96 : decode cX12_workOut 96 = .ok (.iaload, 1) := dzr zhdX12_workOut_87 4 rfl
theorem dX12_workOut_97 : decode cX12_workOut 97 = .ok (.bipush 9, 2) := dzr zhdX12_workOut_87 5 rfl
theorem dX12_workOut_99 : decode cX12_workOut 99 = .ok (.if_icmp .ne 26, 3) := dzr zhdX12_workOut_87 6 rfl
theorem dX12_workOut_102 : decode cX12_workOut 102 = .ok (.aload_n 0, 1) := dzr zhdX12_workOut_87 7 rfl
theorem dX12_workOut_103 : decode cX12_workOut 103 = .ok (.getfield 37, 3) := dzr zhdX12_workOut_87 8 rfl
theorem dX12_workOut_106 : decode cX12_workOut 106 = .ok (.iload 4, 2) := dzr zhdX12_workOut_87 9 rfl
theorem dX12_workOut_108 : decode cX12_workOut 108 = .ok (.iconst 1, 1) := dzr zhdX12_workOut_87 10 rfl
theorem dX12_workOut_109 : decode cX12_workOut 109 = .ok (.isub, 1) := dzr zhdX12_workOut_87 11 rfl
theorem dX12_workOut_110 : decode cX12_workOut 110 = .ok (.iconst 1, 1) := dzr zhdX12_workOut_87 12 rfl
theorem dX12_workOut_111 : decode cX12_workOut 111 = .ok (.aload_n 0, 1) := dzr zhdX12_workOut_87 13 rfl
theorem dX12_workOut_112 : decode cX12_workOut 112 = .ok (.getfield 37, 3) := dzr zhdX12_workOut_87 14 rfl
theorem dX12_workOut_115 : decode cX12_workOut 115 = .ok (.iload 4, 2) := dzr zhdX12_workOut_87 15 rfl
theorem dX12_workOut_117 : decode cX12_workOut 117 = .ok (.iconst 1, 1) := dzr zhdX12_workOut_87 16 rfl
theorem dX12_workOut_118 : decode cX12_workOut 118 = .ok (.isub, 1) := dzr zhdX12_workOut_87 17 rfl
theorem dX12_workOut_119 : decode cX12_workOut 119 = .ok (.iaload, 1) := dzr zhdX12_workOut_87 18 rfl
theorem dX12_workOut_120 : decode cX12_workOut 120 = .ok (.isub, 1) := dzr zhdX12_workOut_87 19 rfl
theorem dX12_workOut_121 : decode cX12_workOut 121 = .ok (.iastore, 1) := dzr zhdX12_workOut_87 20 rfl
theorem dX12_workOut_122 : decode cX12_workOut 122 = .ok (.goto 43, 3) := dzr zhdX12_workOut_87 21 rfl
theorem dX12_workOut_125 : decode cX12_workOut 125 = .ok (.iinc 4 (-1), 3) := dzr zhdX12_workOut_87 22 rfl
theorem dX12_workOut_128 : decode cX12_workOut 128 = .ok (.aload_n 0, 1) := dzr zhdX12_workOut_87 23 rfl
def ztdX12_workOut_129 : List (Nat × Instr × Nat) := [(129, .getfield 37, 3), (132, .iload 4, 2), (134, .iconst 1, 1), (135, .isub, 1), (136, .aload_n 0, 1), (137, .getfield 13, 3), (140, .iload 5, 2), (142, .iaload, 1), (143, .aload_n 0, 1), (144, .getfield 37, 3), (147, .iload 4, 2), (149, .iconst 1, 1), (150, .isub, 1), (151, .iaload, 1), (152, .i2l, 1), (153, .aload_n 0, 1), (154, .getfield 37, 3), (157, .iload 4, 2), (159, .iaload, 1), (160, .i2l, 1), (161, .invokestatic 203, 3), (164, .iastore, 1), (165, .iinc 5 1, 3), (168, .goto (-156), 3)]
theorem zhdX12_workOut_129 : dzC ztdX12_workOut_129 129 (cX12_workOut.data.toList.drop 129) = true := by decide +kernel
theorem dX12_workOut_129 : decode cX12_workOut 129 = .ok (.getfield 37, 3) := dzr zhdX12_workOut_129 0 rfl
theorem dX12_workOut_132 : decode cX12_workOut 132 = .ok (.iload 4, 2) := dzr zhdX12_workOut_129 1 rfl
theorem dX12_workOut_134 : decode cX12_workOut 134 = .ok (.iconst 1, 1) := dzr zhdX12_workOut_129 2 rfl
theorem dX12_workOut_135 : decode cX12_workOut 135 = .ok (.isub, 1) := dzr zhdX12_workOut_129 3 rfl
theorem dX12_workOut_136 : decode cX12_workOut 136 = .ok (.aload_n 0, 1) := dzr zhdX12_workOut_129 4 rfl
theorem dX12_workOut_137 : decode cX12_workOut 137 = .ok (.getfield 13, 3) := dzr zhdX12_workOut_129 5 rfl
theorem dX12_workOut_140 : decode cX12_workOut 140 = .ok (.iload 5, 2) := dzr zhdX12_workOut_129 6 rfl
theorem dX12_workOut_142 : decode cX12_workOut 142 = .ok (.iaload, 1) := dzr zhdX12_workOut_129 7 rfl
theorem dX12_workOut_143 : decode cX12_workOut 143 = .ok (.aload_n 0, 1) := dzr zhdX12_workOut_129 8 rfl
theorem dX12_workOut_144 : decode cX12_workOut 144 = .ok (.getfield 37, 3) := dzr zhdX12_workOut_129 9 rfl
theorem dX12_workOut_147 : decode cX12_workOut 147 = .ok (.iload 4, 2) := dzr zhdX12_workOut_129 10 rfl
theorem dX12_workOut_149 : decode cX12_workOut 149 = .ok (.iconst 1, 1) := dzr zhdX12_workOut_129 11 rfl
theorem dX12_workOut_150 : decode cX12_workOut 150 = .ok (.isub, 1) := dzr zhdX12_workOut_129 12 rfl
theorem dX12_workOut_151 : decode cX12_workOut 151 = .ok (.iaload, 1) := dzr zhdX12_workOut_129 13 rfl
theorem dX12_workOut_152 : decode cX12_workOut 152 = .ok (.i2l, 1) := dzr zhdX12_workOut_129 14 rfl
theorem dX12_workOut_153 : decode cX12_workOut 153 = .ok (.aload_n 0, 1) := dzr zhdX12_workOut_129 15 rfl
theorem dX12_workOut_154 : decode cX12_workOut 154 = .ok (.getfield 37, 3) := dzr zhdX12_workOut_129 16 rfl
theorem dX12_workOut_157 : decode cX12_workOut 157 = .ok (.iload 4, 2) := dzr zhdX12_workOut_129 17 rfl
theorem dX12_workOut_159 : decode cX12_workOut 159 = .ok (.iaload, 1) := dzr zhdX12_workOut_129 18 rfl
theorem dX12_workOut_160 : decode cX12_workOut 160 = .ok (.i2l, 1) := dzr zhdX12_workOut_129 19 rfl
theorem dX12_workOut_161 : decode cX12_workOut 161 = .ok (.invokestatic 203, 3) := dzr zhdX12_workOut_129 20 rfl
theorem dX12_workOut_164 : decode cX12_workOut 164 = .ok (.iastore, 1) := dzr zhdX12_workOut_129 21 rfl
theorem dX12_workOut_165 : decode cX12_workOut 165 = .ok (.iinc 5 1, 3) := dzr zhdX12_workOut_129 22 rfl
theorem dX12_workOut_168 : decode cX12_workOut 168 = .ok (.goto (-156), 3) := dzr zhdX12_workOut_129 23 rfl
def ztdX12_workOut_171 : List (Nat × Instr × Nat) := [(171, .aload_n 0, 1), (172, .getfield 37, 3), (175, .iconst 0, 1), (176, .iaload, 1), (177, .ireturn, 1)]
theorem zhdX12_workOut_171 : dzC ztdX12_workOut_171 171 (cX12_workOut.data.toList.drop 171) = true := by decide +kernel
theorem dX12_workOut_171 : decode cX12_workOut 171 = .ok (.aload_n 0, 1) := dzr zhdX12_workOut_171 0 rfl
theorem dX12_workOut_172 : decode cX12_workOut 172 = .ok (.getfield 37, 3) := dzr zhdX12_workOut_171 1 rfl
theorem dX12_workOut_175 : decode cX12_workOut 175 = .ok (.iconst 0, 1) := dzr zhdX12_workOut_171 2 rfl
theorem dX12_workOut_176 : decode cX12_workOut 176 = .ok (.iaload, 1) := dzr zhdX12_workOut_171 3 rfl
theorem dX12_workOut_177 : decode cX12_workOut 177 = .ok (.ireturn, 1) := dzr zhdX12_workOut_171 4 rfl
theorem ggX12_worthOf_X12_workOut : GoodIn wsX12_worthOf wsX12_workOut := (bg_up (bg_law (bi_wsL_law0_r33 _ (List.mem_of_getElem? (i := 2) rfl))))
theorem gX12_worthOf_X12_workOut : GoodIn wsX12_worthOf (wsV RX12 207 RX12 yX12_workOut wsX12_workOut) := goodIn_app (bg_up (bg_cons (bi_wsL_law0_r32 _ (List.mem_of_getElem? (i := 23) rfl)) (bg_cons (bi_wsL_law0_r33 _ (List.mem_of_getElem? (i := 0) rfl)) (bg_cons (bi_wsL_law0_r33 _ (List.mem_of_getElem? (i := 1) rfl)) (bg_cons (bi_wsL_law0_r1 _ (List.mem_of_getElem? (i := 5) rfl)) bg_nil))))) (bg_up (bg_law (bi_wsL_law0_r33 _ (List.mem_of_getElem? (i := 2) rfl))))
def ztdX12_worthOf_0 : List (Nat × Instr × Nat) := [(0, .sipush 140, 3), (3, .iload_n 1, 1), (4, .imul, 1), (5, .istore_n 2, 1), (6, .iload_n 2, 1), (7, .sipush 140, 3), (10, .iload_n 1, 1), (11, .imul, 1), (12, .aload_n 0, 1), (13, .getfield 22, 3), (16, .iload_n 1, 1), (17, .iaload, 1), (18, .iadd, 1), (19, .if_icmp .ge 62, 3), (22, .aload_n 0, 1), (23, .getfield 25, 3), (26, .iload_n 2, 1), (27, .iaload, 1), (28, .aload_n 0, 1), (29, .getfield 28, 3), (32, .iload_n 2, 1), (33, .iaload, 1), (34, .if_icmp .eq 23, 3), (37, .aload_n 0, 1)]
theorem zhdX12_worthOf_0 : dzC ztdX12_worthOf_0 0 (cX12_worthOf.data.toList.drop 0) = true := by decide +kernel
theorem dX12_worthOf_0 : decode cX12_worthOf 0 = .ok (.sipush 140, 3) := dzr zhdX12_worthOf_0 0 rfl
theorem dX12_worthOf_3 : decode cX12_worthOf 3 = .ok (.iload_n 1, 1) := dzr zhdX12_worthOf_0 1 rfl
theorem dX12_worthOf_4 : decode cX12_worthOf 4 = .ok (.imul, 1) := dzr zhdX12_worthOf_0 2 rfl
theorem dX12_worthOf_5 : decode cX12_worthOf 5 = .ok (.istore_n 2, 1) := dzr zhdX12_worthOf_0 3 rfl
theorem dX12_worthOf_6 : decode cX12_worthOf 6 = .ok (.iload_n 2, 1) := dzr zhdX12_worthOf_0 4 rfl
theorem dX12_worthOf_7 : decode cX12_worthOf 7 = .ok (.sipush 140, 3) := dzr zhdX12_worthOf_0 5 rfl
theorem dX12_worthOf_10 : decode cX12_worthOf 10 = .ok (.iload_n 1, 1) := dzr zhdX12_worthOf_0 6 rfl
theorem dX12_worthOf_11 : decode cX12_worthOf 11 = .ok (.imul, 1) := dzr zhdX12_worthOf_0 7 rfl
theorem dX12_worthOf_12 : decode cX12_worthOf 12 = .ok (.aload_n 0, 1) := dzr zhdX12_worthOf_0 8 rfl
theorem dX12_worthOf_13 : decode cX12_worthOf 13 = .ok (.getfield 22, 3) := dzr zhdX12_worthOf_0 9 rfl
theorem dX12_worthOf_16 : decode cX12_worthOf 16 = .ok (.iload_n 1, 1) := dzr zhdX12_worthOf_0 10 rfl
theorem dX12_worthOf_17 : decode cX12_worthOf 17 = .ok (.iaload, 1) := dzr zhdX12_worthOf_0 11 rfl
theorem dX12_worthOf_18 : decode cX12_worthOf 18 = .ok (.iadd, 1) := dzr zhdX12_worthOf_0 12 rfl
theorem dX12_worthOf_19 : decode cX12_worthOf 19 = .ok (.if_icmp .ge 62, 3) := dzr zhdX12_worthOf_0 13 rfl
theorem dX12_worthOf_22 : decode cX12_worthOf 22 = .ok (.aload_n 0, 1) := dzr zhdX12_worthOf_0 14 rfl
theorem dX12_worthOf_23 : decode cX12_worthOf 23 = .ok (.getfield 25, 3) := dzr zhdX12_worthOf_0 15 rfl
theorem dX12_worthOf_26 : decode cX12_worthOf 26 = .ok (.iload_n 2, 1) := dzr zhdX12_worthOf_0 16 rfl
theorem dX12_worthOf_27 : decode cX12_worthOf 27 = .ok (.iaload, 1) := dzr zhdX12_worthOf_0 17 rfl
theorem dX12_worthOf_28 : decode cX12_worthOf 28 = .ok (.aload_n 0, 1) := dzr zhdX12_worthOf_0 18 rfl
theorem dX12_worthOf_29 : decode cX12_worthOf 29 = .ok (.getfield 28, 3) := dzr zhdX12_worthOf_0 19 rfl
theorem dX12_worthOf_32 : decode cX12_worthOf 32 = .ok (.iload_n 2, 1) := dzr zhdX12_worthOf_0 20 rfl
theorem dX12_worthOf_33 : decode cX12_worthOf 33 = .ok (.iaload, 1) := dzr zhdX12_worthOf_0 21 rfl
theorem dX12_worthOf_34 : decode cX12_worthOf 34 = .ok (.if_icmp .eq 23, 3) := dzr zhdX12_worthOf_0 22 rfl
theorem dX12_worthOf_37 : decode cX12_worthOf 37 = .ok (.aload_n 0, 1) := dzr zhdX12_worthOf_0 23 rfl
def ztdX12_worthOf_38 : List (Nat × Instr × Nat) := [(38, .iload_n 1, 1), (39, .aload_n 0, 1), (40, .getfield 25, 3), (43, .iload_n 2, 1), (44, .iaload, 1), (45, .aload_n 0, 1), (46, .getfield 28, 3), (49, .iload_n 2, 1), (50, .iaload, 1), (51, .invokevirtual 207, 3), (54, .ifCond .eq 21, 3), (57, .aload_n 0, 1), (58, .iload_n 1, 1), (59, .aload_n 0, 1), (60, .getfield 28, 3), (63, .iload_n 2, 1), (64, .iaload, 1), (65, .aload_n 0, 1), (66, .getfield 31, 3), (69, .iload_n 2, 1), (70, .iaload, 1), (71, .invokevirtual 207, 3), (74, .ireturn, 1), (75, .iinc 2 1, 3)]
theorem zhdX12_worthOf_38 : dzC ztdX12_worthOf_38 38 (cX12_worthOf.data.toList.drop 38) = true := by decide +kernel
theorem dX12_worthOf_38 : decode cX12_worthOf 38 = .ok (.iload_n 1, 1) := dzr zhdX12_worthOf_38 0 rfl
theorem dX12_worthOf_39 : decode cX12_worthOf 39 = .ok (.aload_n 0, 1) := dzr zhdX12_worthOf_38 1 rfl
theorem dX12_worthOf_40 : decode cX12_worthOf 40 = .ok (.getfield 25, 3) := dzr zhdX12_worthOf_38 2 rfl
theorem dX12_worthOf_43 : decode cX12_worthOf 43 = .ok (.iload_n 2, 1) := dzr zhdX12_worthOf_38 3 rfl
theorem dX12_worthOf_44 : decode cX12_worthOf 44 = .ok (.iaload, 1) := dzr zhdX12_worthOf_38 4 rfl
theorem dX12_worthOf_45 : decode cX12_worthOf 45 = .ok (.aload_n 0, 1) := dzr zhdX12_worthOf_38 5 rfl
theorem dX12_worthOf_46 : decode cX12_worthOf 46 = .ok (.getfield 28, 3) := dzr zhdX12_worthOf_38 6 rfl
theorem dX12_worthOf_49 : decode cX12_worthOf 49 = .ok (.iload_n 2, 1) := dzr zhdX12_worthOf_38 7 rfl
theorem dX12_worthOf_50 : decode cX12_worthOf 50 = .ok (.iaload, 1) := dzr zhdX12_worthOf_38 8 rfl
theorem dX12_worthOf_51 : decode cX12_worthOf 51 = .ok (.invokevirtual 207, 3) := dzr zhdX12_worthOf_38 9 rfl
theorem dX12_worthOf_54 : decode cX12_worthOf 54 = .ok (.ifCond .eq 21, 3) := dzr zhdX12_worthOf_38 10 rfl
theorem dX12_worthOf_57 : decode cX12_worthOf 57 = .ok (.aload_n 0, 1) := dzr zhdX12_worthOf_38 11 rfl
theorem dX12_worthOf_58 : decode cX12_worthOf 58 = .ok (.iload_n 1, 1) := dzr zhdX12_worthOf_38 12 rfl
theorem dX12_worthOf_59 : decode cX12_worthOf 59 = .ok (.aload_n 0, 1) := dzr zhdX12_worthOf_38 13 rfl
theorem dX12_worthOf_60 : decode cX12_worthOf 60 = .ok (.getfield 28, 3) := dzr zhdX12_worthOf_38 14 rfl
theorem dX12_worthOf_63 : decode cX12_worthOf 63 = .ok (.iload_n 2, 1) := dzr zhdX12_worthOf_38 15 rfl
theorem dX12_worthOf_64 : decode cX12_worthOf 64 = .ok (.iaload, 1) := dzr zhdX12_worthOf_38 16 rfl
theorem dX12_worthOf_65 : decode cX12_worthOf 65 = .ok (.aload_n 0, 1) := dzr zhdX12_worthOf_38 17 rfl
theorem dX12_worthOf_66 : decode cX12_worthOf 66 = .ok (.getfield 31, 3) := dzr zhdX12_worthOf_38 18 rfl
theorem dX12_worthOf_69 : decode cX12_worthOf 69 = .ok (.iload_n 2, 1) := dzr zhdX12_worthOf_38 19 rfl
theorem dX12_worthOf_70 : decode cX12_worthOf 70 = .ok (.iaload, 1) := dzr zhdX12_worthOf_38 20 rfl
theorem dX12_worthOf_71 : decode cX12_worthOf 71 = .ok (.invokevirtual 207, 3) := dzr zhdX12_worthOf_38 21 rfl
theorem dX12_worthOf_74 : decode cX12_worthOf 74 = .ok (.ireturn, 1) := dzr zhdX12_worthOf_38 22 rfl
theorem dX12_worthOf_75 : decode cX12_worthOf 75 = .ok (.iinc 2 1, 3) := dzr zhdX12_worthOf_38 23 rfl
def ztdX12_worthOf_78 : List (Nat × Instr × Nat) := [(78, .goto (-72), 3), (81, .iconst 0, 1), (82, .ireturn, 1)]
theorem zhdX12_worthOf_78 : dzC ztdX12_worthOf_78 78 (cX12_worthOf.data.toList.drop 78) = true := by decide +kernel
theorem dX12_worthOf_78 : decode cX12_worthOf 78 = .ok (.goto (-72), 3) := dzr zhdX12_worthOf_78 0 rfl
theorem dX12_worthOf_81 : decode cX12_worthOf 81 = .ok (.iconst 0, 1) := dzr zhdX12_worthOf_78 1 rfl
theorem dX12_worthOf_82 : decode cX12_worthOf 82 = .ok (.ireturn, 1) := dzr zhdX12_worthOf_78 2 rfl
theorem ggX12_number_X12_look : GoodIn wsX12_number wsX12_look := (bg_up (bg_law (bi_wsL_law0_r15 _ (List.mem_of_getElem? (i := 14) rfl))))
theorem gX12_number_X12_look : GoodIn wsX12_number (wsV RX12 125 RX12 yX12_look wsX12_look) := goodIn_app (bg_up (bg_cons (bi_wsL_law0_r15 _ (List.mem_of_getElem? (i := 11) rfl)) (bg_cons (bi_wsL_law0_r15 _ (List.mem_of_getElem? (i := 12) rfl)) (bg_cons (bi_wsL_law0_r15 _ (List.mem_of_getElem? (i := 13) rfl)) (bg_cons (bi_wsL_law0_r1 _ (List.mem_of_getElem? (i := 5) rfl)) bg_nil))))) (bg_up (bg_law (bi_wsL_law0_r15 _ (List.mem_of_getElem? (i := 14) rfl))))
theorem ggX12_number_X12_isDigit : GoodIn wsX12_number wsX12_isDigit := (bg_up (bg_law (bi_wsL_law0_r16 _ (List.mem_of_getElem? (i := 14) rfl))))
theorem gX12_number_X12_isDigit : GoodIn wsX12_number (va_wsS RX12 128 yX12_isDigit wsX12_isDigit) := goodIn_app (bg_up (bg_cons (bi_wsL_law0_r16 _ (List.mem_of_getElem? (i := 12) rfl)) (bg_cons (bi_wsL_law0_r16 _ (List.mem_of_getElem? (i := 13) rfl)) (bg_cons (bi_wsL_law0_r1 _ (List.mem_of_getElem? (i := 5) rfl)) bg_nil)))) (bg_up (bg_law (bi_wsL_law0_r16 _ (List.mem_of_getElem? (i := 14) rfl))))
theorem ggX12_number_X12_bad : GoodIn wsX12_number wsX12_bad := (bg_up (bg_law (bi_wsL_law0_r16 _ (List.mem_of_getElem? (i := 18) rfl))))
theorem gX12_number_X12_bad : GoodIn wsX12_number (wsV RX12 122 RX12 yX12_bad wsX12_bad) := goodIn_app (bg_up (bg_cons (bi_wsL_law0_r16 _ (List.mem_of_getElem? (i := 15) rfl)) (bg_cons (bi_wsL_law0_r16 _ (List.mem_of_getElem? (i := 16) rfl)) (bg_cons (bi_wsL_law0_r16 _ (List.mem_of_getElem? (i := 17) rfl)) (bg_cons (bi_wsL_law0_r1 _ (List.mem_of_getElem? (i := 5) rfl)) bg_nil))))) (bg_up (bg_law (bi_wsL_law0_r16 _ (List.mem_of_getElem? (i := 18) rfl))))
theorem ggX12_number_X12_here : GoodIn wsX12_number wsX12_here := (bg_up (bg_law (bi_wsL_law0_r15 _ (List.mem_of_getElem? (i := 18) rfl))))
theorem gX12_number_X12_here : GoodIn wsX12_number (wsV RX12 109 RX12 yX12_here wsX12_here) := goodIn_app (bg_up (bg_cons (bi_wsL_law0_r15 _ (List.mem_of_getElem? (i := 15) rfl)) (bg_cons (bi_wsL_law0_r15 _ (List.mem_of_getElem? (i := 16) rfl)) (bg_cons (bi_wsL_law0_r15 _ (List.mem_of_getElem? (i := 17) rfl)) (bg_cons (bi_wsL_law0_r1 _ (List.mem_of_getElem? (i := 5) rfl)) bg_nil))))) (bg_up (bg_law (bi_wsL_law0_r15 _ (List.mem_of_getElem? (i := 18) rfl))))
theorem ggX12_number_X12_in : GoodIn wsX12_number wsX12_in := (bg_up (bg_law (bi_wsL_law0_r16 _ (List.mem_of_getElem? (i := 21) rfl))))
theorem gX12_number_X12_in : GoodIn wsX12_number (va_wsS RX12 211 yX12_in wsX12_in) := goodIn_app (bg_up (bg_cons (bi_wsL_law0_r16 _ (List.mem_of_getElem? (i := 19) rfl)) (bg_cons (bi_wsL_law0_r16 _ (List.mem_of_getElem? (i := 20) rfl)) (bg_cons (bi_wsL_law0_r1 _ (List.mem_of_getElem? (i := 5) rfl)) bg_nil)))) (bg_up (bg_law (bi_wsL_law0_r16 _ (List.mem_of_getElem? (i := 21) rfl))))
def ztdX12_number_0 : List (Nat × Instr × Nat) := [(0, .aload_n 0, 1), (1, .invokevirtual 125, 3), (4, .invokestatic 128, 3), (7, .ifCond .ne 9, 3), (10, .aload_n 0, 1), (11, .invokevirtual 122, 3), (14, .iload_n 1, 1), (15, .ireturn, 1), (16, .aload_n 0, 1), (17, .invokevirtual 109, 3), (20, .bipush 48, 2), (22, .isub, 1), (23, .istore_n 3, 1), (24, .aload_n 0, 1), (25, .dup, 1), (26, .getfield 106, 3), (29, .iconst 1, 1), (30, .iadd, 1), (31, .putfield 106, 3), (34, .aload_n 0, 1), (35, .invokevirtual 109, 3), (38, .invokestatic 128, 3), (41, .ifCond .eq 26, 3), (44, .bipush 10, 2)]
theorem zhdX12_number_0 : dzC ztdX12_number_0 0 (cX12_number.data.toList.drop 0) = true := by decide +kernel
theorem dX12_number_0 : decode cX12_number 0 = .ok (.aload_n 0, 1) := dzr zhdX12_number_0 0 rfl
theorem dX12_number_1 : decode cX12_number 1 = .ok (.invokevirtual 125, 3) := dzr zhdX12_number_0 1 rfl
theorem dX12_number_4 : decode cX12_number 4 = .ok (.invokestatic 128, 3) := dzr zhdX12_number_0 2 rfl
theorem dX12_number_7 : decode cX12_number 7 = .ok (.ifCond .ne 9, 3) := dzr zhdX12_number_0 3 rfl
theorem dX12_number_10 : decode cX12_number 10 = .ok (.aload_n 0, 1) := dzr zhdX12_number_0 4 rfl
theorem dX12_number_11 : decode cX12_number 11 = .ok (.invokevirtual 122, 3) := dzr zhdX12_number_0 5 rfl
theorem dX12_number_14 : decode cX12_number 14 = .ok (.iload_n 1, 1) := dzr zhdX12_number_0 6 rfl
theorem dX12_number_15 : decode cX12_number 15 = .ok (.ireturn, 1) := dzr zhdX12_number_0 7 rfl
theorem dX12_number_16 : decode cX12_number 16 = .ok (.aload_n 0, 1) := dzr zhdX12_number_0 8 rfl
theorem dX12_number_17 : decode cX12_number 17 = .ok (.invokevirtual 109, 3) := dzr zhdX12_number_0 9 rfl
theorem dX12_number_20 : decode cX12_number 20 = .ok (.bipush 48, 2) := dzr zhdX12_number_0 10 rfl
theorem dX12_number_22 : decode cX12_number 22 = .ok (.isub, 1) := dzr zhdX12_number_0 11 rfl
theorem dX12_number_23 : decode cX12_number 23 = .ok (.istore_n 3, 1) := dzr zhdX12_number_0 12 rfl
theorem dX12_number_24 : decode cX12_number 24 = .ok (.aload_n 0, 1) := dzr zhdX12_number_0 13 rfl
theorem dX12_number_25 : decode cX12_number 25 = .ok (.dup, 1) := dzr zhdX12_number_0 14 rfl
theorem dX12_number_26 : decode cX12_number 26 = .ok (.getfield 106, 3) := dzr zhdX12_number_0 15 rfl
theorem dX12_number_29 : decode cX12_number 29 = .ok (.iconst 1, 1) := dzr zhdX12_number_0 16 rfl
theorem dX12_number_30 : decode cX12_number 30 = .ok (.iadd, 1) := dzr zhdX12_number_0 17 rfl
theorem dX12_number_31 : decode cX12_number 31 = .ok (.putfield 106, 3) := dzr zhdX12_number_0 18 rfl
theorem dX12_number_34 : decode cX12_number 34 = .ok (.aload_n 0, 1) := dzr zhdX12_number_0 19 rfl
theorem dX12_number_35 : decode cX12_number 35 = .ok (.invokevirtual 109, 3) := dzr zhdX12_number_0 20 rfl
theorem dX12_number_38 : decode cX12_number 38 = .ok (.invokestatic 128, 3) := dzr zhdX12_number_0 21 rfl
theorem dX12_number_41 : decode cX12_number 41 = .ok (.ifCond .eq 26, 3) := dzr zhdX12_number_0 22 rfl
theorem dX12_number_44 : decode cX12_number 44 = .ok (.bipush 10, 2) := dzr zhdX12_number_0 23 rfl
def ztdX12_number_46 : List (Nat × Instr × Nat) := [(46, .iload_n 3, 1), (47, .imul, 1), (48, .aload_n 0, 1), (49, .invokevirtual 109, 3), (52, .iadd, 1), (53, .bipush 48, 2), (55, .isub, 1), (56, .istore_n 3, 1), (57, .aload_n 0, 1), (58, .dup, 1), (59, .getfield 106, 3), (62, .iconst 1, 1), (63, .iadd, 1), (64, .putfield 106, 3), (67, .aload_n 0, 1), (68, .invokevirtual 109, 3), (71, .invokestatic 128, 3), (74, .ifCond .eq 10, 3), (77, .aload_n 0, 1), (78, .invokevirtual 122, 3), (81, .goto 26, 3), (84, .iload_n 3, 1), (85, .iload_n 1, 1), (86, .iload_n 2, 1)]
theorem zhdX12_number_46 : dzC ztdX12_number_46 46 (cX12_number.data.toList.drop 46) = true := by decide +kernel
theorem dX12_number_46 : decode cX12_number 46 = .ok (.iload_n 3, 1) := dzr zhdX12_number_46 0 rfl
theorem dX12_number_47 : decode cX12_number 47 = .ok (.imul, 1) := dzr zhdX12_number_46 1 rfl
theorem dX12_number_48 : decode cX12_number 48 = .ok (.aload_n 0, 1) := dzr zhdX12_number_46 2 rfl
theorem dX12_number_49 : decode cX12_number 49 = .ok (.invokevirtual 109, 3) := dzr zhdX12_number_46 3 rfl
theorem dX12_number_52 : decode cX12_number 52 = .ok (.iadd, 1) := dzr zhdX12_number_46 4 rfl
theorem dX12_number_53 : decode cX12_number 53 = .ok (.bipush 48, 2) := dzr zhdX12_number_46 5 rfl
theorem dX12_number_55 : decode cX12_number 55 = .ok (.isub, 1) := dzr zhdX12_number_46 6 rfl
theorem dX12_number_56 : decode cX12_number 56 = .ok (.istore_n 3, 1) := dzr zhdX12_number_46 7 rfl
theorem dX12_number_57 : decode cX12_number 57 = .ok (.aload_n 0, 1) := dzr zhdX12_number_46 8 rfl
theorem dX12_number_58 : decode cX12_number 58 = .ok (.dup, 1) := dzr zhdX12_number_46 9 rfl
theorem dX12_number_59 : decode cX12_number 59 = .ok (.getfield 106, 3) := dzr zhdX12_number_46 10 rfl
theorem dX12_number_62 : decode cX12_number 62 = .ok (.iconst 1, 1) := dzr zhdX12_number_46 11 rfl
theorem dX12_number_63 : decode cX12_number 63 = .ok (.iadd, 1) := dzr zhdX12_number_46 12 rfl
theorem dX12_number_64 : decode cX12_number 64 = .ok (.putfield 106, 3) := dzr zhdX12_number_46 13 rfl
theorem dX12_number_67 : decode cX12_number 67 = .ok (.aload_n 0, 1) := dzr zhdX12_number_46 14 rfl
theorem dX12_number_68 : decode cX12_number 68 = .ok (.invokevirtual 109, 3) := dzr zhdX12_number_46 15 rfl
theorem dX12_number_71 : decode cX12_number 71 = .ok (.invokestatic 128, 3) := dzr zhdX12_number_46 16 rfl
theorem dX12_number_74 : decode cX12_number 74 = .ok (.ifCond .eq 10, 3) := dzr zhdX12_number_46 17 rfl
theorem dX12_number_77 : decode cX12_number 77 = .ok (.aload_n 0, 1) := dzr zhdX12_number_46 18 rfl
theorem dX12_number_78 : decode cX12_number 78 = .ok (.invokevirtual 122, 3) := dzr zhdX12_number_46 19 rfl
theorem dX12_number_81 : decode cX12_number 81 = .ok (.goto 26, 3) := dzr zhdX12_number_46 20 rfl
theorem dX12_number_84 : decode cX12_number 84 = .ok (.iload_n 3, 1) := dzr zhdX12_number_46 21 rfl
theorem dX12_number_85 : decode cX12_number 85 = .ok (.iload_n 1, 1) := dzr zhdX12_number_46 22 rfl
theorem dX12_number_86 : decode cX12_number 86 = .ok (.iload_n 2, 1) := dzr zhdX12_number_46 23 rfl
def ztdX12_number_87 : List (Nat × Instr × Nat) := [(87, .invokestatic 211, 3), (90, .ifCond .ne 17, 3), (93, .aload_n 0, 1), (94, .dup, 1), (95, .getfield 106, 3), (98, .iconst 1, 1), (99, .isub, 1), (100, .putfield 106, 3), (103, .aload_n 0, 1), (104, .invokevirtual 122, 3), (107, .iload_n 3, 1), (108, .ireturn, 1)]
theorem zhdX12_number_87 : dzC ztdX12_number_87 87 (cX12_number.data.toList.drop 87) = true := by decide +kernel
theorem dX12_number_87 : decode cX12_number 87 = .ok (.invokestatic 211, 3) := dzr zhdX12_number_87 0 rfl
theorem dX12_number_90 : decode cX12_number 90 = .ok (.ifCond .ne 17, 3) := dzr zhdX12_number_87 1 rfl
theorem dX12_number_93 : decode cX12_number 93 = .ok (.aload_n 0, 1) := dzr zhdX12_number_87 2 rfl
theorem dX12_number_94 : decode cX12_number 94 = .ok (.dup, 1) := dzr zhdX12_number_87 3 rfl
theorem dX12_number_95 : decode cX12_number 95 = .ok (.getfield 106, 3) := dzr zhdX12_number_87 4 rfl
theorem dX12_number_98 : decode cX12_number 98 = .ok (.iconst 1, 1) := dzr zhdX12_number_87 5 rfl
theorem dX12_number_99 : decode cX12_number 99 = .ok (.isub, 1) := dzr zhdX12_number_87 6 rfl
theorem dX12_number_100 : decode cX12_number 100 = .ok (.putfield 106, 3) := dzr zhdX12_number_87 7 rfl
theorem dX12_number_103 : decode cX12_number 103 = .ok (.aload_n 0, 1) := dzr zhdX12_number_87 8 rfl
theorem dX12_number_104 : decode cX12_number 104 = .ok (.invokevirtual 122, 3) := dzr zhdX12_number_87 9 rfl
theorem dX12_number_107 : decode cX12_number 107 = .ok (.iload_n 3, 1) := dzr zhdX12_number_87 10 rfl
theorem dX12_number_108 : decode cX12_number 108 = .ok (.ireturn, 1) := dzr zhdX12_number_87 11 rfl
theorem dX12_itemOf_1 : decode cX12_itemOf 1 = .ok (.lookupswitch 91 #[(103, 49), (115, 27)], 27) := by decide +kernel
def ztdX12_itemOf_0 : List (Nat × Instr × Nat) := [(0, .iload_n 0, 1), (28, .iload_n 1, 1), (29, .bipush 112, 2), (31, .if_icmp .ne 7, 3), (34, .iconst 0, 1), (35, .goto 14, 3), (38, .iload_n 1, 1), (39, .bipush 107, 2), (41, .if_icmp .ne 7, 3), (44, .iconst 1, 1), (45, .goto 4, 3), (48, .iconst (-1), 1), (49, .ireturn, 1), (50, .iload_n 1, 1), (51, .bipush 104, 2), (53, .if_icmp .ne 7, 3), (56, .iconst 0, 1), (57, .goto 34, 3), (60, .iload_n 1, 1), (61, .bipush 102, 2), (63, .if_icmp .ne 7, 3), (66, .iconst 1, 1), (67, .goto 24, 3), (70, .iload_n 1, 1)]
theorem zhdX12_itemOf_0 : dzC ztdX12_itemOf_0 0 (cX12_itemOf.data.toList.drop 0) = true := by decide +kernel
theorem dX12_itemOf_0 : decode cX12_itemOf 0 = .ok (.iload_n 0, 1) := dzr zhdX12_itemOf_0 0 rfl
theorem dX12_itemOf_28 : decode cX12_itemOf 28 = .ok (.iload_n 1, 1) := dzr zhdX12_itemOf_0 1 rfl
theorem dX12_itemOf_29 : decode cX12_itemOf 29 = .ok (.bipush 112, 2) := dzr zhdX12_itemOf_0 2 rfl
theorem dX12_itemOf_31 : decode cX12_itemOf 31 = .ok (.if_icmp .ne 7, 3) := dzr zhdX12_itemOf_0 3 rfl
theorem dX12_itemOf_34 : decode cX12_itemOf 34 = .ok (.iconst 0, 1) := dzr zhdX12_itemOf_0 4 rfl
theorem dX12_itemOf_35 : decode cX12_itemOf 35 = .ok (.goto 14, 3) := dzr zhdX12_itemOf_0 5 rfl
theorem dX12_itemOf_38 : decode cX12_itemOf 38 = .ok (.iload_n 1, 1) := dzr zhdX12_itemOf_0 6 rfl
theorem dX12_itemOf_39 : decode cX12_itemOf 39 = .ok (.bipush 107, 2) := dzr zhdX12_itemOf_0 7 rfl
theorem dX12_itemOf_41 : decode cX12_itemOf 41 = .ok (.if_icmp .ne 7, 3) := dzr zhdX12_itemOf_0 8 rfl
theorem dX12_itemOf_44 : decode cX12_itemOf 44 = .ok (.iconst 1, 1) := dzr zhdX12_itemOf_0 9 rfl
theorem dX12_itemOf_45 : decode cX12_itemOf 45 = .ok (.goto 4, 3) := dzr zhdX12_itemOf_0 10 rfl
theorem dX12_itemOf_48 : decode cX12_itemOf 48 = .ok (.iconst (-1), 1) := dzr zhdX12_itemOf_0 11 rfl
theorem dX12_itemOf_49 : decode cX12_itemOf 49 = .ok (.ireturn, 1) := dzr zhdX12_itemOf_0 12 rfl
theorem dX12_itemOf_50 : decode cX12_itemOf 50 = .ok (.iload_n 1, 1) := dzr zhdX12_itemOf_0 13 rfl
theorem dX12_itemOf_51 : decode cX12_itemOf 51 = .ok (.bipush 104, 2) := dzr zhdX12_itemOf_0 14 rfl
theorem dX12_itemOf_53 : decode cX12_itemOf 53 = .ok (.if_icmp .ne 7, 3) := dzr zhdX12_itemOf_0 15 rfl
theorem dX12_itemOf_56 : decode cX12_itemOf 56 = .ok (.iconst 0, 1) := dzr zhdX12_itemOf_0 16 rfl
theorem dX12_itemOf_57 : decode cX12_itemOf 57 = .ok (.goto 34, 3) := dzr zhdX12_itemOf_0 17 rfl
theorem dX12_itemOf_60 : decode cX12_itemOf 60 = .ok (.iload_n 1, 1) := dzr zhdX12_itemOf_0 18 rfl
theorem dX12_itemOf_61 : decode cX12_itemOf 61 = .ok (.bipush 102, 2) := dzr zhdX12_itemOf_0 19 rfl
theorem dX12_itemOf_63 : decode cX12_itemOf 63 = .ok (.if_icmp .ne 7, 3) := dzr zhdX12_itemOf_0 20 rfl
theorem dX12_itemOf_66 : decode cX12_itemOf 66 = .ok (.iconst 1, 1) := dzr zhdX12_itemOf_0 21 rfl
theorem dX12_itemOf_67 : decode cX12_itemOf 67 = .ok (.goto 24, 3) := dzr zhdX12_itemOf_0 22 rfl
theorem dX12_itemOf_70 : decode cX12_itemOf 70 = .ok (.iload_n 1, 1) := dzr zhdX12_itemOf_0 23 rfl
def ztdX12_itemOf_71 : List (Nat × Instr × Nat) := [(71, .bipush 115, 2), (73, .if_icmp .ne 7, 3), (76, .iconst 2, 1), (77, .goto 14, 3), (80, .iload_n 1, 1), (81, .bipush 97, 2), (83, .if_icmp .ne 7, 3), (86, .iconst 3, 1), (87, .goto 4, 3), (90, .iconst (-1), 1), (91, .ireturn, 1), (92, .iload_n 1, 1), (93, .bipush 119, 2), (95, .if_icmp .ne 7, 3), (98, .iconst 0, 1), (99, .goto 14, 3), (102, .iload_n 1, 1), (103, .bipush 110, 2), (105, .if_icmp .ne 7, 3), (108, .iconst 1, 1), (109, .goto 4, 3), (112, .iconst (-1), 1), (113, .ireturn, 1)]
theorem zhdX12_itemOf_71 : dzC ztdX12_itemOf_71 71 (cX12_itemOf.data.toList.drop 71) = true := by decide +kernel
theorem dX12_itemOf_71 : decode cX12_itemOf 71 = .ok (.bipush 115, 2) := dzr zhdX12_itemOf_71 0 rfl
theorem dX12_itemOf_73 : decode cX12_itemOf 73 = .ok (.if_icmp .ne 7, 3) := dzr zhdX12_itemOf_71 1 rfl
theorem dX12_itemOf_76 : decode cX12_itemOf 76 = .ok (.iconst 2, 1) := dzr zhdX12_itemOf_71 2 rfl
theorem dX12_itemOf_77 : decode cX12_itemOf 77 = .ok (.goto 14, 3) := dzr zhdX12_itemOf_71 3 rfl
theorem dX12_itemOf_80 : decode cX12_itemOf 80 = .ok (.iload_n 1, 1) := dzr zhdX12_itemOf_71 4 rfl
theorem dX12_itemOf_81 : decode cX12_itemOf 81 = .ok (.bipush 97, 2) := dzr zhdX12_itemOf_71 5 rfl
theorem dX12_itemOf_83 : decode cX12_itemOf 83 = .ok (.if_icmp .ne 7, 3) := dzr zhdX12_itemOf_71 6 rfl
theorem dX12_itemOf_86 : decode cX12_itemOf 86 = .ok (.iconst 3, 1) := dzr zhdX12_itemOf_71 7 rfl
theorem dX12_itemOf_87 : decode cX12_itemOf 87 = .ok (.goto 4, 3) := dzr zhdX12_itemOf_71 8 rfl
theorem dX12_itemOf_90 : decode cX12_itemOf 90 = .ok (.iconst (-1), 1) := dzr zhdX12_itemOf_71 9 rfl
theorem dX12_itemOf_91 : decode cX12_itemOf 91 = .ok (.ireturn, 1) := dzr zhdX12_itemOf_71 10 rfl
theorem dX12_itemOf_92 : decode cX12_itemOf 92 = .ok (.iload_n 1, 1) := dzr zhdX12_itemOf_71 11 rfl
theorem dX12_itemOf_93 : decode cX12_itemOf 93 = .ok (.bipush 119, 2) := dzr zhdX12_itemOf_71 12 rfl
theorem dX12_itemOf_95 : decode cX12_itemOf 95 = .ok (.if_icmp .ne 7, 3) := dzr zhdX12_itemOf_71 13 rfl
theorem dX12_itemOf_98 : decode cX12_itemOf 98 = .ok (.iconst 0, 1) := dzr zhdX12_itemOf_71 14 rfl
theorem dX12_itemOf_99 : decode cX12_itemOf 99 = .ok (.goto 14, 3) := dzr zhdX12_itemOf_71 15 rfl
theorem dX12_itemOf_102 : decode cX12_itemOf 102 = .ok (.iload_n 1, 1) := dzr zhdX12_itemOf_71 16 rfl
theorem dX12_itemOf_103 : decode cX12_itemOf 103 = .ok (.bipush 110, 2) := dzr zhdX12_itemOf_71 17 rfl
theorem dX12_itemOf_105 : decode cX12_itemOf 105 = .ok (.if_icmp .ne 7, 3) := dzr zhdX12_itemOf_71 18 rfl
theorem dX12_itemOf_108 : decode cX12_itemOf 108 = .ok (.iconst 1, 1) := dzr zhdX12_itemOf_71 19 rfl
theorem dX12_itemOf_109 : decode cX12_itemOf 109 = .ok (.goto 4, 3) := dzr zhdX12_itemOf_71 20 rfl
theorem dX12_itemOf_112 : decode cX12_itemOf 112 = .ok (.iconst (-1), 1) := dzr zhdX12_itemOf_71 21 rfl
theorem dX12_itemOf_113 : decode cX12_itemOf 113 = .ok (.ireturn, 1) := dzr zhdX12_itemOf_71 22 rfl
theorem dX12_highest_1 : decode cX12_highest 1 = .ok (.lookupswitch 59 #[(103, 39), (115, 27)], 27) := by decide +kernel
def ztdX12_highest_0 : List (Nat × Instr × Nat) := [(0, .iload_n 0, 1), (28, .iload_n 1, 1), (29, .ifCond .ne 8, 3), (32, .bipush 9, 2), (34, .goto 5, 3), (37, .bipush 99, 2), (39, .ireturn, 1), (40, .iload_n 1, 1), (41, .ifCond .ne 7, 3), (44, .iconst 1, 1), (45, .goto 14, 3), (48, .iload_n 1, 1), (49, .iconst 3, 1), (50, .if_icmp .ne 7, 3), (53, .iconst 3, 1), (54, .goto 5, 3), (57, .bipush 9, 2), (59, .ireturn, 1), (60, .iload_n 1, 1), (61, .ifCond .ne 8, 3), (64, .bipush 9, 2), (66, .goto 5, 3), (69, .bipush 60, 2), (71, .ireturn, 1)]
theorem zhdX12_highest_0 : dzC ztdX12_highest_0 0 (cX12_highest.data.toList.drop 0) = true := by decide +kernel
theorem dX12_highest_0 : decode cX12_highest 0 = .ok (.iload_n 0, 1) := dzr zhdX12_highest_0 0 rfl
theorem dX12_highest_28 : decode cX12_highest 28 = .ok (.iload_n 1, 1) := dzr zhdX12_highest_0 1 rfl
theorem dX12_highest_29 : decode cX12_highest 29 = .ok (.ifCond .ne 8, 3) := dzr zhdX12_highest_0 2 rfl
theorem dX12_highest_32 : decode cX12_highest 32 = .ok (.bipush 9, 2) := dzr zhdX12_highest_0 3 rfl
theorem dX12_highest_34 : decode cX12_highest 34 = .ok (.goto 5, 3) := dzr zhdX12_highest_0 4 rfl
theorem dX12_highest_37 : decode cX12_highest 37 = .ok (.bipush 99, 2) := dzr zhdX12_highest_0 5 rfl
theorem dX12_highest_39 : decode cX12_highest 39 = .ok (.ireturn, 1) := dzr zhdX12_highest_0 6 rfl
theorem dX12_highest_40 : decode cX12_highest 40 = .ok (.iload_n 1, 1) := dzr zhdX12_highest_0 7 rfl
theorem dX12_highest_41 : decode cX12_highest 41 = .ok (.ifCond .ne 7, 3) := dzr zhdX12_highest_0 8 rfl
theorem dX12_highest_44 : decode cX12_highest 44 = .ok (.iconst 1, 1) := dzr zhdX12_highest_0 9 rfl
theorem dX12_highest_45 : decode cX12_highest 45 = .ok (.goto 14, 3) := dzr zhdX12_highest_0 10 rfl
theorem dX12_highest_48 : decode cX12_highest 48 = .ok (.iload_n 1, 1) := dzr zhdX12_highest_0 11 rfl
theorem dX12_highest_49 : decode cX12_highest 49 = .ok (.iconst 3, 1) := dzr zhdX12_highest_0 12 rfl
theorem dX12_highest_50 : decode cX12_highest 50 = .ok (.if_icmp .ne 7, 3) := dzr zhdX12_highest_0 13 rfl
theorem dX12_highest_53 : decode cX12_highest 53 = .ok (.iconst 3, 1) := dzr zhdX12_highest_0 14 rfl
theorem dX12_highest_54 : decode cX12_highest 54 = .ok (.goto 5, 3) := dzr zhdX12_highest_0 15 rfl
theorem dX12_highest_57 : decode cX12_highest 57 = .ok (.bipush 9, 2) := dzr zhdX12_highest_0 16 rfl
theorem dX12_highest_59 : decode cX12_highest 59 = .ok (.ireturn, 1) := dzr zhdX12_highest_0 17 rfl
theorem dX12_highest_60 : decode cX12_highest 60 = .ok (.iload_n 1, 1) := dzr zhdX12_highest_0 18 rfl
theorem dX12_highest_61 : decode cX12_highest 61 = .ok (.ifCond .ne 8, 3) := dzr zhdX12_highest_0 19 rfl
theorem dX12_highest_64 : decode cX12_highest 64 = .ok (.bipush 9, 2) := dzr zhdX12_highest_0 20 rfl
theorem dX12_highest_66 : decode cX12_highest 66 = .ok (.goto 5, 3) := dzr zhdX12_highest_0 21 rfl
theorem dX12_highest_69 : decode cX12_highest 69 = .ok (.bipush 60, 2) := dzr zhdX12_highest_0 22 rfl
theorem dX12_highest_71 : decode cX12_highest 71 = .ok (.ireturn, 1) := dzr zhdX12_highest_0 23 rfl
theorem dX12_usual_1 : decode cX12_usual 1 = .ok (.lookupswitch 58 #[(103, 38), (115, 27)], 27) := by decide +kernel
def ztdX12_usual_0 : List (Nat × Instr × Nat) := [(0, .iload_n 0, 1), (28, .iload_n 1, 1), (29, .ifCond .ne 7, 3), (32, .iconst 4, 1), (33, .goto 5, 3), (36, .bipush 20, 2), (38, .ireturn, 1), (39, .iload_n 1, 1), (40, .iconst 1, 1), (41, .if_icmp .ne 7, 3), (44, .iconst 4, 1), (45, .goto 13, 3), (48, .iload_n 1, 1), (49, .iconst 2, 1), (50, .if_icmp .ne 7, 3), (53, .iconst 3, 1), (54, .goto 4, 3), (57, .iconst 0, 1), (58, .ireturn, 1), (59, .iload_n 1, 1), (60, .ifCond .ne 7, 3), (63, .iconst 3, 1), (64, .goto 5, 3), (67, .bipush 10, 2)]
theorem zhdX12_usual_0 : dzC ztdX12_usual_0 0 (cX12_usual.data.toList.drop 0) = true := by decide +kernel
theorem dX12_usual_0 : decode cX12_usual 0 = .ok (.iload_n 0, 1) := dzr zhdX12_usual_0 0 rfl
theorem dX12_usual_28 : decode cX12_usual 28 = .ok (.iload_n 1, 1) := dzr zhdX12_usual_0 1 rfl
theorem dX12_usual_29 : decode cX12_usual 29 = .ok (.ifCond .ne 7, 3) := dzr zhdX12_usual_0 2 rfl
theorem dX12_usual_32 : decode cX12_usual 32 = .ok (.iconst 4, 1) := dzr zhdX12_usual_0 3 rfl
theorem dX12_usual_33 : decode cX12_usual 33 = .ok (.goto 5, 3) := dzr zhdX12_usual_0 4 rfl
theorem dX12_usual_36 : decode cX12_usual 36 = .ok (.bipush 20, 2) := dzr zhdX12_usual_0 5 rfl
theorem dX12_usual_38 : decode cX12_usual 38 = .ok (.ireturn, 1) := dzr zhdX12_usual_0 6 rfl
theorem dX12_usual_39 : decode cX12_usual 39 = .ok (.iload_n 1, 1) := dzr zhdX12_usual_0 7 rfl
theorem dX12_usual_40 : decode cX12_usual 40 = .ok (.iconst 1, 1) := dzr zhdX12_usual_0 8 rfl
theorem dX12_usual_41 : decode cX12_usual 41 = .ok (.if_icmp .ne 7, 3) := dzr zhdX12_usual_0 9 rfl
theorem dX12_usual_44 : decode cX12_usual 44 = .ok (.iconst 4, 1) := dzr zhdX12_usual_0 10 rfl
theorem dX12_usual_45 : decode cX12_usual 45 = .ok (.goto 13, 3) := dzr zhdX12_usual_0 11 rfl
theorem dX12_usual_48 : decode cX12_usual 48 = .ok (.iload_n 1, 1) := dzr zhdX12_usual_0 12 rfl
theorem dX12_usual_49 : decode cX12_usual 49 = .ok (.iconst 2, 1) := dzr zhdX12_usual_0 13 rfl
theorem dX12_usual_50 : decode cX12_usual 50 = .ok (.if_icmp .ne 7, 3) := dzr zhdX12_usual_0 14 rfl
theorem dX12_usual_53 : decode cX12_usual 53 = .ok (.iconst 3, 1) := dzr zhdX12_usual_0 15 rfl
theorem dX12_usual_54 : decode cX12_usual 54 = .ok (.goto 4, 3) := dzr zhdX12_usual_0 16 rfl
theorem dX12_usual_57 : decode cX12_usual 57 = .ok (.iconst 0, 1) := dzr zhdX12_usual_0 17 rfl
theorem dX12_usual_58 : decode cX12_usual 58 = .ok (.ireturn, 1) := dzr zhdX12_usual_0 18 rfl
theorem dX12_usual_59 : decode cX12_usual 59 = .ok (.iload_n 1, 1) := dzr zhdX12_usual_0 19 rfl
theorem dX12_usual_60 : decode cX12_usual 60 = .ok (.ifCond .ne 7, 3) := dzr zhdX12_usual_0 20 rfl
theorem dX12_usual_63 : decode cX12_usual 63 = .ok (.iconst 3, 1) := dzr zhdX12_usual_0 21 rfl
theorem dX12_usual_64 : decode cX12_usual 64 = .ok (.goto 5, 3) := dzr zhdX12_usual_0 22 rfl
theorem dX12_usual_67 : decode cX12_usual 67 = .ok (.bipush 10, 2) := dzr zhdX12_usual_0 23 rfl
def ztdX12_usual_69 : List (Nat × Instr × Nat) := [(69, .ireturn, 1)]
theorem zhdX12_usual_69 : dzC ztdX12_usual_69 69 (cX12_usual.data.toList.drop 69) = true := by decide +kernel
theorem dX12_usual_69 : decode cX12_usual 69 = .ok (.ireturn, 1) := dzr zhdX12_usual_69 0 rfl
theorem ggX12_items_X12_usual : GoodIn wsX12_items wsX12_usual := (bg_up (bg_law (bi_wsL_law0_r15 _ (List.mem_of_getElem? (i := 10) rfl))))
theorem gX12_items_X12_usual : GoodIn wsX12_items (va_wsS RX12 215 yX12_usual wsX12_usual) := goodIn_app (bg_up (bg_cons (bi_wsL_law0_r15 _ (List.mem_of_getElem? (i := 8) rfl)) (bg_cons (bi_wsL_law0_r15 _ (List.mem_of_getElem? (i := 9) rfl)) (bg_cons (bi_wsL_law0_r1 _ (List.mem_of_getElem? (i := 5) rfl)) bg_nil)))) (bg_up (bg_law (bi_wsL_law0_r15 _ (List.mem_of_getElem? (i := 10) rfl))))
theorem ggX12_items_X12_look : GoodIn wsX12_items wsX12_look := (bg_up (bg_law (bi_wsL_law0_r15 _ (List.mem_of_getElem? (i := 14) rfl))))
theorem gX12_items_X12_look : GoodIn wsX12_items (wsV RX12 125 RX12 yX12_look wsX12_look) := goodIn_app (bg_up (bg_cons (bi_wsL_law0_r15 _ (List.mem_of_getElem? (i := 11) rfl)) (bg_cons (bi_wsL_law0_r15 _ (List.mem_of_getElem? (i := 12) rfl)) (bg_cons (bi_wsL_law0_r15 _ (List.mem_of_getElem? (i := 13) rfl)) (bg_cons (bi_wsL_law0_r1 _ (List.mem_of_getElem? (i := 5) rfl)) bg_nil))))) (bg_up (bg_law (bi_wsL_law0_r15 _ (List.mem_of_getElem? (i := 14) rfl))))
theorem ggX12_items_X12_itemOf : GoodIn wsX12_items wsX12_itemOf := (bg_up (bg_law (bi_wsL_law0_r16 _ (List.mem_of_getElem? (i := 1) rfl))))
theorem gX12_items_X12_itemOf : GoodIn wsX12_items (va_wsS RX12 219 yX12_itemOf wsX12_itemOf) := goodIn_app (bg_up (bg_cons (bi_wsL_law0_r15 _ (List.mem_of_getElem? (i := 23) rfl)) (bg_cons (bi_wsL_law0_r16 _ (List.mem_of_getElem? (i := 0) rfl)) (bg_cons (bi_wsL_law0_r1 _ (List.mem_of_getElem? (i := 5) rfl)) bg_nil)))) (bg_up (bg_law (bi_wsL_law0_r16 _ (List.mem_of_getElem? (i := 1) rfl))))
theorem ggX12_items_X12_has : GoodIn wsX12_items wsX12_has := (bg_up (bg_law (bi_wsL_law0_r16 _ (List.mem_of_getElem? (i := 4) rfl))))
theorem gX12_items_X12_has : GoodIn wsX12_items (va_wsS RX12 222 yX12_has wsX12_has) := goodIn_app (bg_up (bg_cons (bi_wsL_law0_r16 _ (List.mem_of_getElem? (i := 2) rfl)) (bg_cons (bi_wsL_law0_r16 _ (List.mem_of_getElem? (i := 3) rfl)) (bg_cons (bi_wsL_law0_r1 _ (List.mem_of_getElem? (i := 5) rfl)) bg_nil)))) (bg_up (bg_law (bi_wsL_law0_r16 _ (List.mem_of_getElem? (i := 4) rfl))))
theorem ggX12_items_X12_highest : GoodIn wsX12_items wsX12_highest := (bg_up (bg_law (bi_wsL_law0_r16 _ (List.mem_of_getElem? (i := 7) rfl))))
theorem gX12_items_X12_highest : GoodIn wsX12_items (va_wsS RX12 226 yX12_highest wsX12_highest) := goodIn_app (bg_up (bg_cons (bi_wsL_law0_r16 _ (List.mem_of_getElem? (i := 5) rfl)) (bg_cons (bi_wsL_law0_r16 _ (List.mem_of_getElem? (i := 6) rfl)) (bg_cons (bi_wsL_law0_r1 _ (List.mem_of_getElem? (i := 5) rfl)) bg_nil)))) (bg_up (bg_law (bi_wsL_law0_r16 _ (List.mem_of_getElem? (i := 7) rfl))))
theorem ggX12_items_X12_number : GoodIn wsX12_items wsX12_number := (bg_up (bg_law (bi_wsL_law0_r16 _ (List.mem_of_getElem? (i := 11) rfl))))
theorem gX12_items_X12_number : GoodIn wsX12_items (wsV RX12 229 RX12 yX12_number wsX12_number) := goodIn_app (bg_up (bg_cons (bi_wsL_law0_r16 _ (List.mem_of_getElem? (i := 8) rfl)) (bg_cons (bi_wsL_law0_r16 _ (List.mem_of_getElem? (i := 9) rfl)) (bg_cons (bi_wsL_law0_r16 _ (List.mem_of_getElem? (i := 10) rfl)) (bg_cons (bi_wsL_law0_r1 _ (List.mem_of_getElem? (i := 5) rfl)) bg_nil))))) (bg_up (bg_law (bi_wsL_law0_r16 _ (List.mem_of_getElem? (i := 11) rfl))))
def ztdX12_items_0 : List (Nat × Instr × Nat) := [(0, .iconst 0, 1), (1, .istore 5, 2), (3, .iload 5, 2), (5, .iload 4, 2), (7, .if_icmp .ge 21, 3), (10, .aload_n 2, 1), (11, .iload_n 3, 1), (12, .iload 5, 2), (14, .iadd, 1), (15, .iload_n 1, 1), (16, .iload 5, 2), (18, .invokestatic 215, 3), (21, .iastore, 1), (22, .iinc 5 1, 3), (25, .goto (-22), 3), (28, .iconst 0, 1), (29, .istore 5, 2), (31, .iload_n 1, 1), (32, .aload_n 0, 1), (33, .invokevirtual 125, 3), (36, .invokestatic 219, 3), (39, .istore 6, 2), (41, .aload_n 0, 1), (42, .getfield 113, 3)]
theorem zhdX12_items_0 : dzC ztdX12_items_0 0 (cX12_items.data.toList.drop 0) = true := by decide +kernel
theorem dX12_items_0 : decode cX12_items 0 = .ok (.iconst 0, 1) := dzr zhdX12_items_0 0 rfl
theorem dX12_items_1 : decode cX12_items 1 = .ok (.istore 5, 2) := dzr zhdX12_items_0 1 rfl
theorem dX12_items_3 : decode cX12_items 3 = .ok (.iload 5, 2) := dzr zhdX12_items_0 2 rfl
theorem dX12_items_5 : decode cX12_items 5 = .ok (.iload 4, 2) := dzr zhdX12_items_0 3 rfl
theorem dX12_items_7 : decode cX12_items 7 = .ok (.if_icmp .ge 21, 3) := dzr zhdX12_items_0 4 rfl
theorem dX12_items_10 : decode cX12_items 10 = .ok (.aload_n 2, 1) := dzr zhdX12_items_0 5 rfl
theorem dX12_items_11 : decode cX12_items 11 = .ok (.iload_n 3, 1) := dzr zhdX12_items_0 6 rfl
theorem dX12_items_12 : decode cX12_items 12 = .ok (.iload 5, 2) := dzr zhdX12_items_0 7 rfl
theorem dX12_items_14 : decode cX12_items 14 = .ok (.iadd, 1) := dzr zhdX12_items_0 8 rfl
theorem dX12_items_15 : decode cX12_items 15 = .ok (.iload_n 1, 1) := dzr zhdX12_items_0 9 rfl
theorem dX12_items_16 : decode cX12_items 16 = .ok (.iload 5, 2) := dzr zhdX12_items_0 10 rfl
theorem dX12_items_18 : decode cX12_items 18 = .ok (.invokestatic 215, 3) := dzr zhdX12_items_0 11 rfl
theorem dX12_items_21 : decode cX12_items 21 = .ok (.iastore, 1) := dzr zhdX12_items_0 12 rfl
theorem dX12_items_22 : decode cX12_items 22 = .ok (.iinc 5 1, 3) := dzr zhdX12_items_0 13 rfl
theorem dX12_items_25 : decode cX12_items 25 = .ok (.goto (-22), 3) := dzr zhdX12_items_0 14 rfl
theorem dX12_items_28 : decode cX12_items 28 = .ok (.iconst 0, 1) := dzr zhdX12_items_0 15 rfl
theorem dX12_items_29 : decode cX12_items 29 = .ok (.istore 5, 2) := dzr zhdX12_items_0 16 rfl
theorem dX12_items_31 : decode cX12_items 31 = .ok (.iload_n 1, 1) := dzr zhdX12_items_0 17 rfl
theorem dX12_items_32 : decode cX12_items 32 = .ok (.aload_n 0, 1) := dzr zhdX12_items_0 18 rfl
theorem dX12_items_33 : decode cX12_items 33 = .ok (.invokevirtual 125, 3) := dzr zhdX12_items_0 19 rfl
theorem dX12_items_36 : decode cX12_items 36 = .ok (.invokestatic 219, 3) := dzr zhdX12_items_0 20 rfl
theorem dX12_items_39 : decode cX12_items 39 = .ok (.istore 6, 2) := dzr zhdX12_items_0 21 rfl
theorem dX12_items_41 : decode cX12_items 41 = .ok (.aload_n 0, 1) := dzr zhdX12_items_0 22 rfl
theorem dX12_items_42 : decode cX12_items 42 = .ok (.getfield 113, 3) := dzr zhdX12_items_0 23 rfl
def ztdX12_items_45 : List (Nat × Instr × Nat) := [(45, .iconst (-1), 1), (46, .if_icmp .ne 80, 3), (49, .iload 6, 2), (51, .iconst (-1), 1), (52, .if_icmp .eq 74, 3), (55, .iload 5, 2), (57, .iload 6, 2), (59, .invokestatic 222, 3), (62, .ifCond .ne 64, 3), (65, .iload 5, 2), (67, .iconst 1, 1), (68, .iload 6, 2), (70, .ishl, 1), (71, .ior, 1), (72, .istore 5, 2), (74, .aload_n 0, 1), (75, .dup, 1), (76, .getfield 106, 3), (79, .iconst 1, 1), (80, .iadd, 1), (81, .putfield 106, 3), (84, .aload_n 2, 1), (85, .iload_n 3, 1), (86, .iload 6, 2)]
theorem zhdX12_items_45 : dzC ztdX12_items_45 45 (cX12_items.data.toList.drop 45) = true := by decide +kernel
theorem dX12_items_45 : decode cX12_items 45 = .ok (.iconst (-1), 1) := dzr zhdX12_items_45 0 rfl
theorem dX12_items_46 : decode cX12_items 46 = .ok (.if_icmp .ne 80, 3) := dzr zhdX12_items_45 1 rfl
theorem dX12_items_49 : decode cX12_items 49 = .ok (.iload 6, 2) := dzr zhdX12_items_45 2 rfl
theorem dX12_items_51 : decode cX12_items 51 = .ok (.iconst (-1), 1) := dzr zhdX12_items_45 3 rfl
theorem dX12_items_52 : decode cX12_items 52 = .ok (.if_icmp .eq 74, 3) := dzr zhdX12_items_45 4 rfl
theorem dX12_items_55 : decode cX12_items 55 = .ok (.iload 5, 2) := dzr zhdX12_items_45 5 rfl
theorem dX12_items_57 : decode cX12_items 57 = .ok (.iload 6, 2) := dzr zhdX12_items_45 6 rfl
theorem dX12_items_59 : decode cX12_items 59 = .ok (.invokestatic 222, 3) := dzr zhdX12_items_45 7 rfl
theorem dX12_items_62 : decode cX12_items 62 = .ok (.ifCond .ne 64, 3) := dzr zhdX12_items_45 8 rfl
theorem dX12_items_65 : decode cX12_items 65 = .ok (.iload 5, 2) := dzr zhdX12_items_45 9 rfl
theorem dX12_items_67 : decode cX12_items 67 = .ok (.iconst 1, 1) := dzr zhdX12_items_45 10 rfl
theorem dX12_items_68 : decode cX12_items 68 = .ok (.iload 6, 2) := dzr zhdX12_items_45 11 rfl
theorem dX12_items_70 : decode cX12_items 70 = .ok (.ishl, 1) := dzr zhdX12_items_45 12 rfl
theorem dX12_items_71 : decode cX12_items 71 = .ok (.ior, 1) := dzr zhdX12_items_45 13 rfl
theorem dX12_items_72 : decode cX12_items 72 = .ok (.istore 5, 2) := dzr zhdX12_items_45 14 rfl
theorem dX12_items_74 : decode cX12_items 74 = .ok (.aload_n 0, 1) := dzr zhdX12_items_45 15 rfl
theorem dX12_items_75 : decode cX12_items 75 = .ok (.dup, 1) := dzr zhdX12_items_45 16 rfl
theorem dX12_items_76 : decode cX12_items 76 = .ok (.getfield 106, 3) := dzr zhdX12_items_45 17 rfl
theorem dX12_items_79 : decode cX12_items 79 = .ok (.iconst 1, 1) := dzr zhdX12_items_45 18 rfl
theorem dX12_items_80 : decode cX12_items 80 = .ok (.iadd, 1) := dzr zhdX12_items_45 19 rfl
theorem dX12_items_81 : decode cX12_items 81 = .ok (.putfield 106, 3) := dzr zhdX12_items_45 20 rfl
theorem dX12_items_84 : decode cX12_items 84 = .ok (.aload_n 2, 1) := dzr zhdX12_items_45 21 rfl
theorem dX12_items_85 : decode cX12_items 85 = .ok (.iload_n 3, 1) := dzr zhdX12_items_45 22 rfl
theorem dX12_items_86 : decode cX12_items 86 = .ok (.iload 6, 2) := dzr zhdX12_items_45 23 rfl
def ztdX12_items_88 : List (Nat × Instr × Nat) := [(88, .iadd, 1), (89, .aload_n 0, 1), (90, .iconst 0, 1), (91, .iload_n 1, 1), (92, .iload 6, 2), (94, .invokestatic 226, 3), (97, .invokevirtual 229, 3), (100, .iastore, 1), (101, .aload_n 0, 1), (102, .getfield 113, 3), (105, .iconst (-1), 1), (106, .if_icmp .ne 14, 3), (109, .iload_n 1, 1), (110, .aload_n 0, 1), (111, .invokevirtual 125, 3), (114, .invokestatic 219, 3), (117, .goto 4, 3), (120, .iconst (-1), 1), (121, .istore 6, 2), (123, .goto (-82), 3), (126, .return_, 1)]
theorem zhdX12_items_88 : dzC ztdX12_items_88 88 (cX12_items.data.toList.drop 88) = true := by decide +kernel
theorem dX12_items_88 : decode cX12_items 88 = .ok (.iadd, 1) := dzr zhdX12_items_88 0 rfl
theorem dX12_items_89 : decode cX12_items 89 = .ok (.aload_n 0, 1) := dzr zhdX12_items_88 1 rfl
theorem dX12_items_90 : decode cX12_items 90 = .ok (.iconst 0, 1) := dzr zhdX12_items_88 2 rfl
theorem dX12_items_91 : decode cX12_items 91 = .ok (.iload_n 1, 1) := dzr zhdX12_items_88 3 rfl
theorem dX12_items_92 : decode cX12_items 92 = .ok (.iload 6, 2) := dzr zhdX12_items_88 4 rfl
theorem dX12_items_94 : decode cX12_items 94 = .ok (.invokestatic 226, 3) := dzr zhdX12_items_88 5 rfl
theorem dX12_items_97 : decode cX12_items 97 = .ok (.invokevirtual 229, 3) := dzr zhdX12_items_88 6 rfl
theorem dX12_items_100 : decode cX12_items 100 = .ok (.iastore, 1) := dzr zhdX12_items_88 7 rfl
theorem dX12_items_101 : decode cX12_items 101 = .ok (.aload_n 0, 1) := dzr zhdX12_items_88 8 rfl
theorem dX12_items_102 : decode cX12_items 102 = .ok (.getfield 113, 3) := dzr zhdX12_items_88 9 rfl
theorem dX12_items_105 : decode cX12_items 105 = .ok (.iconst (-1), 1) := dzr zhdX12_items_88 10 rfl
theorem dX12_items_106 : decode cX12_items 106 = .ok (.if_icmp .ne 14, 3) := dzr zhdX12_items_88 11 rfl
theorem dX12_items_109 : decode cX12_items 109 = .ok (.iload_n 1, 1) := dzr zhdX12_items_88 12 rfl
theorem dX12_items_110 : decode cX12_items 110 = .ok (.aload_n 0, 1) := dzr zhdX12_items_88 13 rfl
theorem dX12_items_111 : decode cX12_items 111 = .ok (.invokevirtual 125, 3) := dzr zhdX12_items_88 14 rfl
theorem dX12_items_114 : decode cX12_items 114 = .ok (.invokestatic 219, 3) := dzr zhdX12_items_88 15 rfl
theorem dX12_items_117 : decode cX12_items 117 = .ok (.goto 4, 3) := dzr zhdX12_items_88 16 rfl
theorem dX12_items_120 : decode cX12_items 120 = .ok (.iconst (-1), 1) := dzr zhdX12_items_88 17 rfl
theorem dX12_items_121 : decode cX12_items 121 = .ok (.istore 6, 2) := dzr zhdX12_items_88 18 rfl
theorem dX12_items_123 : decode cX12_items 123 = .ok (.goto (-82), 3) := dzr zhdX12_items_88 19 rfl
theorem dX12_items_126 : decode cX12_items 126 = .ok (.return_, 1) := dzr zhdX12_items_88 20 rfl
def ztdX12_isWhole_0 : List (Nat × Instr × Nat) := [(0, .iconst 0, 1), (1, .istore_n 1, 1), (2, .iconst 0, 1), (3, .istore_n 2, 1), (4, .iload_n 2, 1), (5, .aload_n 0, 1), (6, .getfield 232, 3), (9, .if_icmp .ge 24, 3), (12, .iload_n 1, 1), (13, .iconst 1, 1), (14, .aload_n 0, 1), (15, .getfield 43, 3), (18, .iconst 4, 1), (19, .iload_n 2, 1), (20, .imul, 1), (21, .iconst 0, 1), (22, .iadd, 1), (23, .iaload, 1), (24, .ishl, 1), (25, .ior, 1), (26, .istore_n 1, 1), (27, .iinc 2 1, 3), (30, .goto (-26), 3), (33, .iload_n 1, 1)]
theorem zhdX12_isWhole_0 : dzC ztdX12_isWhole_0 0 (cX12_isWhole.data.toList.drop 0) = true := by decide +kernel
theorem dX12_isWhole_0 : decode cX12_isWhole 0 = .ok (.iconst 0, 1) := dzr zhdX12_isWhole_0 0 rfl
theorem dX12_isWhole_1 : decode cX12_isWhole 1 = .ok (.istore_n 1, 1) := dzr zhdX12_isWhole_0 1 rfl
theorem dX12_isWhole_2 : decode cX12_isWhole 2 = .ok (.iconst 0, 1) := dzr zhdX12_isWhole_0 2 rfl
theorem dX12_isWhole_3 : decode cX12_isWhole 3 = .ok (.istore_n 2, 1) := dzr zhdX12_isWhole_0 3 rfl
theorem dX12_isWhole_4 : decode cX12_isWhole 4 = .ok (.iload_n 2, 1) := dzr zhdX12_isWhole_0 4 rfl
theorem dX12_isWhole_5 : decode cX12_isWhole 5 = .ok (.aload_n 0, 1) := dzr zhdX12_isWhole_0 5 rfl
theorem dX12_isWhole_6 : decode cX12_isWhole 6 = .ok (.getfield 232, 3) := dzr zhdX12_isWhole_0 6 rfl
theorem dX12_isWhole_9 : decode cX12_isWhole 9 = .ok (.if_icmp .ge 24, 3) := dzr zhdX12_isWhole_0 7 rfl
theorem dX12_isWhole_12 : decode cX12_isWhole 12 = .ok (.iload_n 1, 1) := dzr zhdX12_isWhole_0 8 rfl
theorem dX12_isWhole_13 : decode cX12_isWhole 13 = .ok (.iconst 1, 1) := dzr zhdX12_isWhole_0 9 rfl
theorem dX12_isWhole_14 : decode cX12_isWhole 14 = .ok (.aload_n 0, 1) := dzr zhdX12_isWhole_0 10 rfl
theorem dX12_isWhole_15 : decode cX12_isWhole 15 = .ok (.getfield 43, 3) := dzr zhdX12_isWhole_0 11 rfl
theorem dX12_isWhole_18 : decode cX12_isWhole 18 = .ok (.iconst 4, 1) := dzr zhdX12_isWhole_0 12 rfl
theorem dX12_isWhole_19 : decode cX12_isWhole 19 = .ok (.iload_n 2, 1) := dzr zhdX12_isWhole_0 13 rfl
theorem dX12_isWhole_20 : decode cX12_isWhole 20 = .ok (.imul, 1) := dzr zhdX12_isWhole_0 14 rfl
theorem dX12_isWhole_21 : decode cX12_isWhole 21 = .ok (.iconst 0, 1) := dzr zhdX12_isWhole_0 15 rfl
theorem dX12_isWhole_22 : decode cX12_isWhole 22 = .ok (.iadd, 1) := dzr zhdX12_isWhole_0 16 rfl
theorem dX12_isWhole_23 : decode cX12_isWhole 23 = .ok (.iaload, 1) := dzr zhdX12_isWhole_0 17 rfl
theorem dX12_isWhole_24 : decode cX12_isWhole 24 = .ok (.ishl, 1) := dzr zhdX12_isWhole_0 18 rfl
theorem dX12_isWhole_25 : decode cX12_isWhole 25 = .ok (.ior, 1) := dzr zhdX12_isWhole_0 19 rfl
theorem dX12_isWhole_26 : decode cX12_isWhole 26 = .ok (.istore_n 1, 1) := dzr zhdX12_isWhole_0 20 rfl
theorem dX12_isWhole_27 : decode cX12_isWhole 27 = .ok (.iinc 2 1, 3) := dzr zhdX12_isWhole_0 21 rfl
theorem dX12_isWhole_30 : decode cX12_isWhole 30 = .ok (.goto (-26), 3) := dzr zhdX12_isWhole_0 22 rfl
theorem dX12_isWhole_33 : decode cX12_isWhole 33 = .ok (.iload_n 1, 1) := dzr zhdX12_isWhole_0 23 rfl
def ztdX12_isWhole_34 : List (Nat × Instr × Nat) := [(34, .iconst 3, 1), (35, .if_icmp .ne 7, 3), (38, .iconst 1, 1), (39, .goto 4, 3), (42, .iconst 0, 1), (43, .ireturn, 1)]
theorem zhdX12_isWhole_34 : dzC ztdX12_isWhole_34 34 (cX12_isWhole.data.toList.drop 34) = true := by decide +kernel
theorem dX12_isWhole_34 : decode cX12_isWhole 34 = .ok (.iconst 3, 1) := dzr zhdX12_isWhole_34 0 rfl
theorem dX12_isWhole_35 : decode cX12_isWhole 35 = .ok (.if_icmp .ne 7, 3) := dzr zhdX12_isWhole_34 1 rfl
theorem dX12_isWhole_38 : decode cX12_isWhole 38 = .ok (.iconst 1, 1) := dzr zhdX12_isWhole_34 2 rfl
theorem dX12_isWhole_39 : decode cX12_isWhole 39 = .ok (.goto 4, 3) := dzr zhdX12_isWhole_34 3 rfl
theorem dX12_isWhole_42 : decode cX12_isWhole 42 = .ok (.iconst 0, 1) := dzr zhdX12_isWhole_34 4 rfl
theorem dX12_isWhole_43 : decode cX12_isWhole 43 = .ok (.ireturn, 1) := dzr zhdX12_isWhole_34 5 rfl
theorem ggX12_readPeace_X12_usual : GoodIn wsX12_readPeace wsX12_usual := (bg_up (bg_law (bi_wsL_law0_r15 _ (List.mem_of_getElem? (i := 10) rfl))))
theorem gX12_readPeace_X12_usual : GoodIn wsX12_readPeace (va_wsS RX12 215 yX12_usual wsX12_usual) := goodIn_app (bg_up (bg_cons (bi_wsL_law0_r15 _ (List.mem_of_getElem? (i := 8) rfl)) (bg_cons (bi_wsL_law0_r15 _ (List.mem_of_getElem? (i := 9) rfl)) (bg_cons (bi_wsL_law0_r1 _ (List.mem_of_getElem? (i := 5) rfl)) bg_nil)))) (bg_up (bg_law (bi_wsL_law0_r15 _ (List.mem_of_getElem? (i := 10) rfl))))
theorem ggX12_readPeace_X12_look : GoodIn wsX12_readPeace wsX12_look := (bg_up (bg_law (bi_wsL_law0_r15 _ (List.mem_of_getElem? (i := 14) rfl))))
theorem gX12_readPeace_X12_look : GoodIn wsX12_readPeace (wsV RX12 125 RX12 yX12_look wsX12_look) := goodIn_app (bg_up (bg_cons (bi_wsL_law0_r15 _ (List.mem_of_getElem? (i := 11) rfl)) (bg_cons (bi_wsL_law0_r15 _ (List.mem_of_getElem? (i := 12) rfl)) (bg_cons (bi_wsL_law0_r15 _ (List.mem_of_getElem? (i := 13) rfl)) (bg_cons (bi_wsL_law0_r1 _ (List.mem_of_getElem? (i := 5) rfl)) bg_nil))))) (bg_up (bg_law (bi_wsL_law0_r15 _ (List.mem_of_getElem? (i := 14) rfl))))
theorem ggX12_readPeace_X12_items : GoodIn wsX12_readPeace wsX12_items := (bg_up (bg_law (bi_wsL_law0_r15 _ (List.mem_of_getElem? (i := 22) rfl))))
theorem gX12_readPeace_X12_items : GoodIn wsX12_readPeace (wsV RX12 238 RX12 yX12_items wsX12_items) := goodIn_app (bg_up (bg_cons (bi_wsL_law0_r15 _ (List.mem_of_getElem? (i := 19) rfl)) (bg_cons (bi_wsL_law0_r15 _ (List.mem_of_getElem? (i := 20) rfl)) (bg_cons (bi_wsL_law0_r15 _ (List.mem_of_getElem? (i := 21) rfl)) (bg_cons (bi_wsL_law0_r1 _ (List.mem_of_getElem? (i := 5) rfl)) bg_nil))))) (bg_up (bg_law (bi_wsL_law0_r15 _ (List.mem_of_getElem? (i := 22) rfl))))
theorem ggX12_readPeace_X12_bad : GoodIn wsX12_readPeace wsX12_bad := (bg_up (bg_law (bi_wsL_law0_r16 _ (List.mem_of_getElem? (i := 18) rfl))))
theorem gX12_readPeace_X12_bad : GoodIn wsX12_readPeace (wsV RX12 122 RX12 yX12_bad wsX12_bad) := goodIn_app (bg_up (bg_cons (bi_wsL_law0_r16 _ (List.mem_of_getElem? (i := 15) rfl)) (bg_cons (bi_wsL_law0_r16 _ (List.mem_of_getElem? (i := 16) rfl)) (bg_cons (bi_wsL_law0_r16 _ (List.mem_of_getElem? (i := 17) rfl)) (bg_cons (bi_wsL_law0_r1 _ (List.mem_of_getElem? (i := 5) rfl)) bg_nil))))) (bg_up (bg_law (bi_wsL_law0_r16 _ (List.mem_of_getElem? (i := 18) rfl))))
theorem ggX12_readPeace_X12_isWhole : GoodIn wsX12_readPeace wsX12_isWhole := (bg_up (bg_law (bi_wsL_law0_r17 _ (List.mem_of_getElem? (i := 1) rfl))))
theorem gX12_readPeace_X12_isWhole : GoodIn wsX12_readPeace (wsV RX12 242 RX12 yX12_isWhole wsX12_isWhole) := goodIn_app (bg_up (bg_cons (bi_wsL_law0_r16 _ (List.mem_of_getElem? (i := 22) rfl)) (bg_cons (bi_wsL_law0_r16 _ (List.mem_of_getElem? (i := 23) rfl)) (bg_cons (bi_wsL_law0_r17 _ (List.mem_of_getElem? (i := 0) rfl)) (bg_cons (bi_wsL_law0_r1 _ (List.mem_of_getElem? (i := 5) rfl)) bg_nil))))) (bg_up (bg_law (bi_wsL_law0_r17 _ (List.mem_of_getElem? (i := 1) rfl))))
def ztdX12_readPeace_0 : List (Nat × Instr × Nat) := [(0, .aload_n 0, 1), (1, .iconst 0, 1), (2, .putfield 106, 3), (5, .aload_n 0, 1), (6, .iconst (-1), 1), (7, .putfield 113, 3), (10, .aload_n 0, 1), (11, .iconst 0, 1), (12, .putfield 232, 3), (15, .aload_n 0, 1), (16, .iconst 0, 1), (17, .putfield 235, 3), (20, .iconst 0, 1), (21, .istore_n 1, 1), (22, .iconst 0, 1), (23, .istore_n 2, 1), (24, .iload_n 2, 1), (25, .iconst 2, 1), (26, .if_icmp .ge 21, 3), (29, .aload_n 0, 1), (30, .getfield 40, 3), (33, .iload_n 2, 1), (34, .bipush 115, 2), (36, .iload_n 2, 1)]
theorem zhdX12_readPeace_0 : dzC ztdX12_readPeace_0 0 (cX12_readPeace.data.toList.drop 0) = true := by decide +kernel
theorem dX12_readPeace_0 : decode cX12_readPeace 0 = .ok (.aload_n 0, 1) := dzr zhdX12_readPeace_0 0 rfl
theorem dX12_readPeace_1 : decode cX12_readPeace 1 = .ok (.iconst 0, 1) := dzr zhdX12_readPeace_0 1 rfl
theorem dX12_readPeace_2 : decode cX12_readPeace 2 = .ok (.putfield 106, 3) := dzr zhdX12_readPeace_0 2 rfl
theorem dX12_readPeace_5 : decode cX12_readPeace 5 = .ok (.aload_n 0, 1) := dzr zhdX12_readPeace_0 3 rfl
theorem dX12_readPeace_6 : decode cX12_readPeace 6 = .ok (.iconst (-1), 1) := dzr zhdX12_readPeace_0 4 rfl
theorem dX12_readPeace_7 : decode cX12_readPeace 7 = .ok (.putfield 113, 3) := dzr zhdX12_readPeace_0 5 rfl
theorem dX12_readPeace_10 : decode cX12_readPeace 10 = .ok (.aload_n 0, 1) := dzr zhdX12_readPeace_0 6 rfl
theorem dX12_readPeace_11 : decode cX12_readPeace 11 = .ok (.iconst 0, 1) := dzr zhdX12_readPeace_0 7 rfl
theorem dX12_readPeace_12 : decode cX12_readPeace 12 = .ok (.putfield 232, 3) := dzr zhdX12_readPeace_0 8 rfl
theorem dX12_readPeace_15 : decode cX12_readPeace 15 = .ok (.aload_n 0, 1) := dzr zhdX12_readPeace_0 9 rfl
theorem dX12_readPeace_16 : decode cX12_readPeace 16 = .ok (.iconst 0, 1) := dzr zhdX12_readPeace_0 10 rfl
theorem dX12_readPeace_17 : decode cX12_readPeace 17 = .ok (.putfield 235, 3) := dzr zhdX12_readPeace_0 11 rfl
theorem dX12_readPeace_20 : decode cX12_readPeace 20 = .ok (.iconst 0, 1) := dzr zhdX12_readPeace_0 12 rfl
theorem dX12_readPeace_21 : decode cX12_readPeace 21 = .ok (.istore_n 1, 1) := dzr zhdX12_readPeace_0 13 rfl
theorem dX12_readPeace_22 : decode cX12_readPeace 22 = .ok (.iconst 0, 1) := dzr zhdX12_readPeace_0 14 rfl
theorem dX12_readPeace_23 : decode cX12_readPeace 23 = .ok (.istore_n 2, 1) := dzr zhdX12_readPeace_0 15 rfl
theorem dX12_readPeace_24 : decode cX12_readPeace 24 = .ok (.iload_n 2, 1) := dzr zhdX12_readPeace_0 16 rfl
theorem dX12_readPeace_25 : decode cX12_readPeace 25 = .ok (.iconst 2, 1) := dzr zhdX12_readPeace_0 17 rfl
theorem dX12_readPeace_26 : decode cX12_readPeace 26 = .ok (.if_icmp .ge 21, 3) := dzr zhdX12_readPeace_0 18 rfl
theorem dX12_readPeace_29 : decode cX12_readPeace 29 = .ok (.aload_n 0, 1) := dzr zhdX12_readPeace_0 19 rfl
theorem dX12_readPeace_30 : decode cX12_readPeace 30 = .ok (.getfield 40, 3) := dzr zhdX12_readPeace_0 20 rfl
theorem dX12_readPeace_33 : decode cX12_readPeace 33 = .ok (.iload_n 2, 1) := dzr zhdX12_readPeace_0 21 rfl
theorem dX12_readPeace_34 : decode cX12_readPeace 34 = .ok (.bipush 115, 2) := dzr zhdX12_readPeace_0 22 rfl
theorem dX12_readPeace_36 : decode cX12_readPeace 36 = .ok (.iload_n 2, 1) := dzr zhdX12_readPeace_0 23 rfl
def ztdX12_readPeace_37 : List (Nat × Instr × Nat) := [(37, .invokestatic 215, 3), (40, .iastore, 1), (41, .iinc 2 1, 3), (44, .goto (-20), 3), (47, .iconst 1, 1), (48, .istore_n 2, 1), (49, .iload_n 2, 1), (50, .ifCond .eq 207, 3), (53, .aload_n 0, 1), (54, .getfield 113, 3), (57, .iconst (-1), 1), (58, .if_icmp .ne 199, 3), (61, .aload_n 0, 1), (62, .invokevirtual 125, 3), (65, .istore_n 3, 1), (66, .iload_n 3, 1), (67, .bipush 115, 2), (69, .if_icmp .ne 33, 3), (72, .iload_n 1, 1), (73, .ifCond .ne 29, 3), (76, .iconst 1, 1), (77, .istore_n 1, 1), (78, .aload_n 0, 1), (79, .dup, 1)]
theorem zhdX12_readPeace_37 : dzC ztdX12_readPeace_37 37 (cX12_readPeace.data.toList.drop 37) = true := by decide +kernel
theorem dX12_readPeace_37 : decode cX12_readPeace 37 = .ok (.invokestatic 215, 3) := dzr zhdX12_readPeace_37 0 rfl
theorem dX12_readPeace_40 : decode cX12_readPeace 40 = .ok (.iastore, 1) := dzr zhdX12_readPeace_37 1 rfl
theorem dX12_readPeace_41 : decode cX12_readPeace 41 = .ok (.iinc 2 1, 3) := dzr zhdX12_readPeace_37 2 rfl
theorem dX12_readPeace_44 : decode cX12_readPeace 44 = .ok (.goto (-20), 3) := dzr zhdX12_readPeace_37 3 rfl
theorem dX12_readPeace_47 : decode cX12_readPeace 47 = .ok (.iconst 1, 1) := dzr zhdX12_readPeace_37 4 rfl
theorem dX12_readPeace_48 : decode cX12_readPeace 48 = .ok (.istore_n 2, 1) := dzr zhdX12_readPeace_37 5 rfl
theorem dX12_readPeace_49 : decode cX12_readPeace 49 = .ok (.iload_n 2, 1) := dzr zhdX12_readPeace_37 6 rfl
theorem dX12_readPeace_50 : decode cX12_readPeace 50 = .ok (.ifCond .eq 207, 3) := dzr zhdX12_readPeace_37 7 rfl
theorem dX12_readPeace_53 : decode cX12_readPeace 53 = .ok (.aload_n 0, 1) := dzr zhdX12_readPeace_37 8 rfl
theorem dX12_readPeace_54 : decode cX12_readPeace 54 = .ok (.getfield 113, 3) := dzr zhdX12_readPeace_37 9 rfl
theorem dX12_readPeace_57 : decode cX12_readPeace 57 = .ok (.iconst (-1), 1) := dzr zhdX12_readPeace_37 10 rfl
theorem dX12_readPeace_58 : decode cX12_readPeace 58 = .ok (.if_icmp .ne 199, 3) := dzr zhdX12_readPeace_37 11 rfl
theorem dX12_readPeace_61 : decode cX12_readPeace 61 = .ok (.aload_n 0, 1) := dzr zhdX12_readPeace_37 12 rfl
theorem dX12_readPeace_62 : decode cX12_readPeace 62 = .ok (.invokevirtual 125, 3) := dzr zhdX12_readPeace_37 13 rfl
theorem dX12_readPeace_65 : decode cX12_readPeace 65 = .ok (.istore_n 3, 1) := dzr zhdX12_readPeace_37 14 rfl
theorem dX12_readPeace_66 : decode cX12_readPeace 66 = .ok (.iload_n 3, 1) := dzr zhdX12_readPeace_37 15 rfl
theorem dX12_readPeace_67 : decode cX12_readPeace 67 = .ok (.bipush 115, 2) := dzr zhdX12_readPeace_37 16 rfl
theorem dX12_readPeace_69 : decode cX12_readPeace 69 = .ok (.if_icmp .ne 33, 3) := dzr zhdX12_readPeace_37 17 rfl
theorem dX12_readPeace_72 : decode cX12_readPeace 72 = .ok (.iload_n 1, 1) := dzr zhdX12_readPeace_37 18 rfl
theorem dX12_readPeace_73 : decode cX12_readPeace 73 = .ok (.ifCond .ne 29, 3) := dzr zhdX12_readPeace_37 19 rfl
theorem dX12_readPeace_76 : decode cX12_readPeace 76 = .ok (.iconst 1, 1) := dzr zhdX12_readPeace_37 20 rfl
theorem dX12_readPeace_77 : decode cX12_readPeace 77 = .ok (.istore_n 1, 1) := dzr zhdX12_readPeace_37 21 rfl
theorem dX12_readPeace_78 : decode cX12_readPeace 78 = .ok (.aload_n 0, 1) := dzr zhdX12_readPeace_37 22 rfl
theorem dX12_readPeace_79 : decode cX12_readPeace 79 = .ok (.dup, 1) := dzr zhdX12_readPeace_37 23 rfl
def ztdX12_readPeace_80 : List (Nat × Instr × Nat) := [(80, .getfield 106, 3), (83, .iconst 1, 1), (84, .iadd, 1), (85, .putfield 106, 3), (88, .aload_n 0, 1), (89, .iload_n 3, 1), (90, .aload_n 0, 1), (91, .getfield 40, 3), (94, .iconst 0, 1), (95, .iconst 2, 1), (96, .invokevirtual 238, 3), (99, .goto 114, 3), (102, .iload_n 3, 1), (103, .bipush 103, 2), (105, .if_icmp .ne 51, 3), (108, .aload_n 0, 1), (109, .getfield 232, 3), (112, .bipush 6, 2), (114, .if_icmp .ge 42, 3), (117, .aload_n 0, 1), (118, .dup, 1), (119, .getfield 106, 3), (122, .iconst 1, 1), (123, .iadd, 1)]
theorem zhdX12_readPeace_80 : dzC ztdX12_readPeace_80 80 (cX12_readPeace.data.toList.drop 80) = true := by decide +kernel
theorem dX12_readPeace_80 : decode cX12_readPeace 80 = .ok (.getfield 106, 3) := dzr zhdX12_readPeace_80 0 rfl
theorem dX12_readPeace_83 : decode cX12_readPeace 83 = .ok (.iconst 1, 1) := dzr zhdX12_readPeace_80 1 rfl
theorem dX12_readPeace_84 : decode cX12_readPeace 84 = .ok (.iadd, 1) := dzr zhdX12_readPeace_80 2 rfl
theorem dX12_readPeace_85 : decode cX12_readPeace 85 = .ok (.putfield 106, 3) := dzr zhdX12_readPeace_80 3 rfl
theorem dX12_readPeace_88 : decode cX12_readPeace 88 = .ok (.aload_n 0, 1) := dzr zhdX12_readPeace_80 4 rfl
theorem dX12_readPeace_89 : decode cX12_readPeace 89 = .ok (.iload_n 3, 1) := dzr zhdX12_readPeace_80 5 rfl
theorem dX12_readPeace_90 : decode cX12_readPeace 90 = .ok (.aload_n 0, 1) := dzr zhdX12_readPeace_80 6 rfl
theorem dX12_readPeace_91 : decode cX12_readPeace 91 = .ok (.getfield 40, 3) := dzr zhdX12_readPeace_80 7 rfl
theorem dX12_readPeace_94 : decode cX12_readPeace 94 = .ok (.iconst 0, 1) := dzr zhdX12_readPeace_80 8 rfl
theorem dX12_readPeace_95 : decode cX12_readPeace 95 = .ok (.iconst 2, 1) := dzr zhdX12_readPeace_80 9 rfl
theorem dX12_readPeace_96 : decode cX12_readPeace 96 = .ok (.invokevirtual 238, 3) := dzr zhdX12_readPeace_80 10 rfl
theorem dX12_readPeace_99 : decode cX12_readPeace 99 = .ok (.goto 114, 3) := dzr zhdX12_readPeace_80 11 rfl
theorem dX12_readPeace_102 : decode cX12_readPeace 102 = .ok (.iload_n 3, 1) := dzr zhdX12_readPeace_80 12 rfl
theorem dX12_readPeace_103 : decode cX12_readPeace 103 = .ok (.bipush 103, 2) := dzr zhdX12_readPeace_80 13 rfl
theorem dX12_readPeace_105 : decode cX12_readPeace 105 = .ok (.if_icmp .ne 51, 3) := dzr zhdX12_readPeace_80 14 rfl
theorem dX12_readPeace_108 : decode cX12_readPeace 108 = .ok (.aload_n 0, 1) := dzr zhdX12_readPeace_80 15 rfl
theorem dX12_readPeace_109 : decode cX12_readPeace 109 = .ok (.getfield 232, 3) := dzr zhdX12_readPeace_80 16 rfl
theorem dX12_readPeace_112 : decode cX12_readPeace 112 = .ok (.bipush 6, 2) := dzr zhdX12_readPeace_80 17 rfl
theorem dX12_readPeace_114 : decode cX12_readPeace 114 = .ok (.if_icmp .ge 42, 3) := dzr zhdX12_readPeace_80 18 rfl
theorem dX12_readPeace_117 : decode cX12_readPeace 117 = .ok (.aload_n 0, 1) := dzr zhdX12_readPeace_80 19 rfl
theorem dX12_readPeace_118 : decode cX12_readPeace 118 = .ok (.dup, 1) := dzr zhdX12_readPeace_80 20 rfl
theorem dX12_readPeace_119 : decode cX12_readPeace 119 = .ok (.getfield 106, 3) := dzr zhdX12_readPeace_80 21 rfl
theorem dX12_readPeace_122 : decode cX12_readPeace 122 = .ok (.iconst 1, 1) := dzr zhdX12_readPeace_80 22 rfl
theorem dX12_readPeace_123 : decode cX12_readPeace 123 = .ok (.iadd, 1) := dzr zhdX12_readPeace_80 23 rfl
def ztdX12_readPeace_124 : List (Nat × Instr × Nat) := [(124, .putfield 106, 3), (127, .aload_n 0, 1), (128, .iload_n 3, 1), (129, .aload_n 0, 1), (130, .getfield 43, 3), (133, .iconst 4, 1), (134, .aload_n 0, 1), (135, .getfield 232, 3), (138, .imul, 1), (139, .iconst 4, 1), (140, .invokevirtual 238, 3), (143, .aload_n 0, 1), (144, .dup, 1), (145, .getfield 232, 3), (148, .iconst 1, 1), (149, .iadd, 1), (150, .putfield 232, 3), (153, .goto 60, 3), (156, .iload_n 3, 1), (157, .bipush 109, 2), (159, .if_icmp .ne 50, 3), (162, .aload_n 0, 1), (163, .getfield 235, 3), (166, .iconst 5, 1)]
theorem zhdX12_readPeace_124 : dzC ztdX12_readPeace_124 124 (cX12_readPeace.data.toList.drop 124) = true := by decide +kernel
theorem dX12_readPeace_124 : decode cX12_readPeace 124 = .ok (.putfield 106, 3) := dzr zhdX12_readPeace_124 0 rfl
theorem dX12_readPeace_127 : decode cX12_readPeace 127 = .ok (.aload_n 0, 1) := dzr zhdX12_readPeace_124 1 rfl
theorem dX12_readPeace_128 : decode cX12_readPeace 128 = .ok (.iload_n 3, 1) := dzr zhdX12_readPeace_124 2 rfl
theorem dX12_readPeace_129 : decode cX12_readPeace 129 = .ok (.aload_n 0, 1) := dzr zhdX12_readPeace_124 3 rfl
theorem dX12_readPeace_130 : decode cX12_readPeace 130 = .ok (.getfield 43, 3) := dzr zhdX12_readPeace_124 4 rfl
theorem dX12_readPeace_133 : decode cX12_readPeace 133 = .ok (.iconst 4, 1) := dzr zhdX12_readPeace_124 5 rfl
theorem dX12_readPeace_134 : decode cX12_readPeace 134 = .ok (.aload_n 0, 1) := dzr zhdX12_readPeace_124 6 rfl
theorem dX12_readPeace_135 : decode cX12_readPeace 135 = .ok (.getfield 232, 3) := dzr zhdX12_readPeace_124 7 rfl
theorem dX12_readPeace_138 : decode cX12_readPeace 138 = .ok (.imul, 1) := dzr zhdX12_readPeace_124 8 rfl
theorem dX12_readPeace_139 : decode cX12_readPeace 139 = .ok (.iconst 4, 1) := dzr zhdX12_readPeace_124 9 rfl
theorem dX12_readPeace_140 : decode cX12_readPeace 140 = .ok (.invokevirtual 238, 3) := dzr zhdX12_readPeace_124 10 rfl
theorem dX12_readPeace_143 : decode cX12_readPeace 143 = .ok (.aload_n 0, 1) := dzr zhdX12_readPeace_124 11 rfl
theorem dX12_readPeace_144 : decode cX12_readPeace 144 = .ok (.dup, 1) := dzr zhdX12_readPeace_124 12 rfl
theorem dX12_readPeace_145 : decode cX12_readPeace 145 = .ok (.getfield 232, 3) := dzr zhdX12_readPeace_124 13 rfl
theorem dX12_readPeace_148 : decode cX12_readPeace 148 = .ok (.iconst 1, 1) := dzr zhdX12_readPeace_124 14 rfl
theorem dX12_readPeace_149 : decode cX12_readPeace 149 = .ok (.iadd, 1) := dzr zhdX12_readPeace_124 15 rfl
theorem dX12_readPeace_150 : decode cX12_readPeace 150 = .ok (.putfield 232, 3) := dzr zhdX12_readPeace_124 16 rfl
theorem dX12_readPeace_153 : decode cX12_readPeace 153 = .ok (.goto 60, 3) := dzr zhdX12_readPeace_124 17 rfl
theorem dX12_readPeace_156 : decode cX12_readPeace 156 = .ok (.iload_n 3, 1) := dzr zhdX12_readPeace_124 18 rfl
theorem dX12_readPeace_157 : decode cX12_readPeace 157 = .ok (.bipush 109, 2) := dzr zhdX12_readPeace_124 19 rfl
theorem dX12_readPeace_159 : decode cX12_readPeace 159 = .ok (.if_icmp .ne 50, 3) := dzr zhdX12_readPeace_124 20 rfl
theorem dX12_readPeace_162 : decode cX12_readPeace 162 = .ok (.aload_n 0, 1) := dzr zhdX12_readPeace_124 21 rfl
theorem dX12_readPeace_163 : decode cX12_readPeace 163 = .ok (.getfield 235, 3) := dzr zhdX12_readPeace_124 22 rfl
theorem dX12_readPeace_166 : decode cX12_readPeace 166 = .ok (.iconst 5, 1) := dzr zhdX12_readPeace_124 23 rfl
def ztdX12_readPeace_167 : List (Nat × Instr × Nat) := [(167, .if_icmp .ge 42, 3), (170, .aload_n 0, 1), (171, .dup, 1), (172, .getfield 106, 3), (175, .iconst 1, 1), (176, .iadd, 1), (177, .putfield 106, 3), (180, .aload_n 0, 1), (181, .iload_n 3, 1), (182, .aload_n 0, 1), (183, .getfield 46, 3), (186, .iconst 2, 1), (187, .aload_n 0, 1), (188, .getfield 235, 3), (191, .imul, 1), (192, .iconst 2, 1), (193, .invokevirtual 238, 3), (196, .aload_n 0, 1), (197, .dup, 1), (198, .getfield 235, 3), (201, .iconst 1, 1), (202, .iadd, 1), (203, .putfield 235, 3), (206, .goto 7, 3)]
theorem zhdX12_readPeace_167 : dzC ztdX12_readPeace_167 167 (cX12_readPeace.data.toList.drop 167) = true := by decide +kernel
theorem dX12_readPeace_167 : decode cX12_readPeace 167 = .ok (.if_icmp .ge 42, 3) := dzr zhdX12_readPeace_167 0 rfl
theorem dX12_readPeace_170 : decode cX12_readPeace 170 = .ok (.aload_n 0, 1) := dzr zhdX12_readPeace_167 1 rfl
theorem dX12_readPeace_171 : decode cX12_readPeace 171 = .ok (.dup, 1) := dzr zhdX12_readPeace_167 2 rfl
theorem dX12_readPeace_172 : decode cX12_readPeace 172 = .ok (.getfield 106, 3) := dzr zhdX12_readPeace_167 3 rfl
theorem dX12_readPeace_175 : decode cX12_readPeace 175 = .ok (.iconst 1, 1) := dzr zhdX12_readPeace_167 4 rfl
theorem dX12_readPeace_176 : decode cX12_readPeace 176 = .ok (.iadd, 1) := dzr zhdX12_readPeace_167 5 rfl
theorem dX12_readPeace_177 : decode cX12_readPeace 177 = .ok (.putfield 106, 3) := dzr zhdX12_readPeace_167 6 rfl
theorem dX12_readPeace_180 : decode cX12_readPeace 180 = .ok (.aload_n 0, 1) := dzr zhdX12_readPeace_167 7 rfl
theorem dX12_readPeace_181 : decode cX12_readPeace 181 = .ok (.iload_n 3, 1) := dzr zhdX12_readPeace_167 8 rfl
theorem dX12_readPeace_182 : decode cX12_readPeace 182 = .ok (.aload_n 0, 1) := dzr zhdX12_readPeace_167 9 rfl
theorem dX12_readPeace_183 : decode cX12_readPeace 183 = .ok (.getfield 46, 3) := dzr zhdX12_readPeace_167 10 rfl
theorem dX12_readPeace_186 : decode cX12_readPeace 186 = .ok (.iconst 2, 1) := dzr zhdX12_readPeace_167 11 rfl
theorem dX12_readPeace_187 : decode cX12_readPeace 187 = .ok (.aload_n 0, 1) := dzr zhdX12_readPeace_167 12 rfl
theorem dX12_readPeace_188 : decode cX12_readPeace 188 = .ok (.getfield 235, 3) := dzr zhdX12_readPeace_167 13 rfl
theorem dX12_readPeace_191 : decode cX12_readPeace 191 = .ok (.imul, 1) := dzr zhdX12_readPeace_167 14 rfl
theorem dX12_readPeace_192 : decode cX12_readPeace 192 = .ok (.iconst 2, 1) := dzr zhdX12_readPeace_167 15 rfl
theorem dX12_readPeace_193 : decode cX12_readPeace 193 = .ok (.invokevirtual 238, 3) := dzr zhdX12_readPeace_167 16 rfl
theorem dX12_readPeace_196 : decode cX12_readPeace 196 = .ok (.aload_n 0, 1) := dzr zhdX12_readPeace_167 17 rfl
theorem dX12_readPeace_197 : decode cX12_readPeace 197 = .ok (.dup, 1) := dzr zhdX12_readPeace_167 18 rfl
theorem dX12_readPeace_198 : decode cX12_readPeace 198 = .ok (.getfield 235, 3) := dzr zhdX12_readPeace_167 19 rfl
theorem dX12_readPeace_201 : decode cX12_readPeace 201 = .ok (.iconst 1, 1) := dzr zhdX12_readPeace_167 20 rfl
theorem dX12_readPeace_202 : decode cX12_readPeace 202 = .ok (.iadd, 1) := dzr zhdX12_readPeace_167 21 rfl
theorem dX12_readPeace_203 : decode cX12_readPeace 203 = .ok (.putfield 235, 3) := dzr zhdX12_readPeace_167 22 rfl
theorem dX12_readPeace_206 : decode cX12_readPeace 206 = .ok (.goto 7, 3) := dzr zhdX12_readPeace_167 23 rfl
def ztdX12_readPeace_209 : List (Nat × Instr × Nat) := [(209, .aload_n 0, 1), (210, .invokevirtual 122, 3), (213, .aload_n 0, 1), (214, .getfield 113, 3), (217, .iconst (-1), 1), (218, .if_icmp .ne 16, 3), (221, .aload_n 0, 1), (222, .invokevirtual 125, 3), (225, .bipush 59, 2), (227, .if_icmp .ne 7, 3), (230, .iconst 1, 1), (231, .goto 4, 3), (234, .iconst 0, 1), (235, .istore_n 2, 1), (236, .aload_n 0, 1), (237, .dup, 1), (238, .getfield 106, 3), (241, .iload_n 2, 1), (242, .ifCond .eq 7, 3), (245, .iconst 1, 1), (246, .goto 4, 3), (249, .iconst 0, 1), (250, .iadd, 1), (251, .putfield 106, 3)]
theorem zhdX12_readPeace_209 : dzC ztdX12_readPeace_209 209 (cX12_readPeace.data.toList.drop 209) = true := by decide +kernel
theorem dX12_readPeace_209 : decode cX12_readPeace 209 = .ok (.aload_n 0, 1) := dzr zhdX12_readPeace_209 0 rfl
theorem dX12_readPeace_210 : decode cX12_readPeace 210 = .ok (.invokevirtual 122, 3) := dzr zhdX12_readPeace_209 1 rfl
theorem dX12_readPeace_213 : decode cX12_readPeace 213 = .ok (.aload_n 0, 1) := dzr zhdX12_readPeace_209 2 rfl
theorem dX12_readPeace_214 : decode cX12_readPeace 214 = .ok (.getfield 113, 3) := dzr zhdX12_readPeace_209 3 rfl
theorem dX12_readPeace_217 : decode cX12_readPeace 217 = .ok (.iconst (-1), 1) := dzr zhdX12_readPeace_209 4 rfl
theorem dX12_readPeace_218 : decode cX12_readPeace 218 = .ok (.if_icmp .ne 16, 3) := dzr zhdX12_readPeace_209 5 rfl
theorem dX12_readPeace_221 : decode cX12_readPeace 221 = .ok (.aload_n 0, 1) := dzr zhdX12_readPeace_209 6 rfl
theorem dX12_readPeace_222 : decode cX12_readPeace 222 = .ok (.invokevirtual 125, 3) := dzr zhdX12_readPeace_209 7 rfl
theorem dX12_readPeace_225 : decode cX12_readPeace 225 = .ok (.bipush 59, 2) := dzr zhdX12_readPeace_209 8 rfl
theorem dX12_readPeace_227 : decode cX12_readPeace 227 = .ok (.if_icmp .ne 7, 3) := dzr zhdX12_readPeace_209 9 rfl
theorem dX12_readPeace_230 : decode cX12_readPeace 230 = .ok (.iconst 1, 1) := dzr zhdX12_readPeace_209 10 rfl
theorem dX12_readPeace_231 : decode cX12_readPeace 231 = .ok (.goto 4, 3) := dzr zhdX12_readPeace_209 11 rfl
theorem dX12_readPeace_234 : decode cX12_readPeace 234 = .ok (.iconst 0, 1) := dzr zhdX12_readPeace_209 12 rfl
theorem dX12_readPeace_235 : decode cX12_readPeace 235 = .ok (.istore_n 2, 1) := dzr zhdX12_readPeace_209 13 rfl
theorem dX12_readPeace_236 : decode cX12_readPeace 236 = .ok (.aload_n 0, 1) := dzr zhdX12_readPeace_209 14 rfl
theorem dX12_readPeace_237 : decode cX12_readPeace 237 = .ok (.dup, 1) := dzr zhdX12_readPeace_209 15 rfl
theorem dX12_readPeace_238 : decode cX12_readPeace 238 = .ok (.getfield 106, 3) := dzr zhdX12_readPeace_209 16 rfl
theorem dX12_readPeace_241 : decode cX12_readPeace 241 = .ok (.iload_n 2, 1) := dzr zhdX12_readPeace_209 17 rfl
theorem dX12_readPeace_242 : decode cX12_readPeace 242 = .ok (.ifCond .eq 7, 3) := dzr zhdX12_readPeace_209 18 rfl
theorem dX12_readPeace_245 : decode cX12_readPeace 245 = .ok (.iconst 1, 1) := dzr zhdX12_readPeace_209 19 rfl
theorem dX12_readPeace_246 : decode cX12_readPeace 246 = .ok (.goto 4, 3) := dzr zhdX12_readPeace_209 20 rfl
theorem dX12_readPeace_249 : decode cX12_readPeace 249 = .ok (.iconst 0, 1) := dzr zhdX12_readPeace_209 21 rfl
theorem dX12_readPeace_250 : decode cX12_readPeace 250 = .ok (.iadd, 1) := dzr zhdX12_readPeace_209 22 rfl
theorem dX12_readPeace_251 : decode cX12_readPeace 251 = .ok (.putfield 106, 3) := dzr zhdX12_readPeace_209 23 rfl
def ztdX12_readPeace_254 : List (Nat × Instr × Nat) := [(254, .goto (-205), 3), (257, .aload_n 0, 1), (258, .getfield 113, 3), (261, .iconst (-1), 1), (262, .if_icmp .ne 22, 3), (265, .aload_n 0, 1), (266, .invokevirtual 125, 3), (269, .iconst (-1), 1), (270, .if_icmp .ne 10, 3), (273, .aload_n 0, 1), (274, .invokevirtual 242, 3), (277, .ifCond .ne 7, 3), (280, .aload_n 0, 1), (281, .invokevirtual 122, 3), (284, .aload_n 0, 1), (285, .getfield 113, 3), (288, .ireturn, 1)]
theorem zhdX12_readPeace_254 : dzC ztdX12_readPeace_254 254 (cX12_readPeace.data.toList.drop 254) = true := by decide +kernel
theorem dX12_readPeace_254 : decode cX12_readPeace 254 = .ok (.goto (-205), 3) := dzr zhdX12_readPeace_254 0 rfl
theorem dX12_readPeace_257 : decode cX12_readPeace 257 = .ok (.aload_n 0, 1) := dzr zhdX12_readPeace_254 1 rfl
theorem dX12_readPeace_258 : decode cX12_readPeace 258 = .ok (.getfield 113, 3) := dzr zhdX12_readPeace_254 2 rfl
theorem dX12_readPeace_261 : decode cX12_readPeace 261 = .ok (.iconst (-1), 1) := dzr zhdX12_readPeace_254 3 rfl
theorem dX12_readPeace_262 : decode cX12_readPeace 262 = .ok (.if_icmp .ne 22, 3) := dzr zhdX12_readPeace_254 4 rfl
theorem dX12_readPeace_265 : decode cX12_readPeace 265 = .ok (.aload_n 0, 1) := dzr zhdX12_readPeace_254 5 rfl
theorem dX12_readPeace_266 : decode cX12_readPeace 266 = .ok (.invokevirtual 125, 3) := dzr zhdX12_readPeace_254 6 rfl
theorem dX12_readPeace_269 : decode cX12_readPeace 269 = .ok (.iconst (-1), 1) := dzr zhdX12_readPeace_254 7 rfl
theorem dX12_readPeace_270 : decode cX12_readPeace 270 = .ok (.if_icmp .ne 10, 3) := dzr zhdX12_readPeace_254 8 rfl
theorem dX12_readPeace_273 : decode cX12_readPeace 273 = .ok (.aload_n 0, 1) := dzr zhdX12_readPeace_254 9 rfl
theorem dX12_readPeace_274 : decode cX12_readPeace 274 = .ok (.invokevirtual 242, 3) := dzr zhdX12_readPeace_254 10 rfl
theorem dX12_readPeace_277 : decode cX12_readPeace 277 = .ok (.ifCond .ne 7, 3) := dzr zhdX12_readPeace_254 11 rfl
theorem dX12_readPeace_280 : decode cX12_readPeace 280 = .ok (.aload_n 0, 1) := dzr zhdX12_readPeace_254 12 rfl
theorem dX12_readPeace_281 : decode cX12_readPeace 281 = .ok (.invokevirtual 122, 3) := dzr zhdX12_readPeace_254 13 rfl
theorem dX12_readPeace_284 : decode cX12_readPeace 284 = .ok (.aload_n 0, 1) := dzr zhdX12_readPeace_254 14 rfl
theorem dX12_readPeace_285 : decode cX12_readPeace 285 = .ok (.getfield 113, 3) := dzr zhdX12_readPeace_254 15 rfl
theorem dX12_readPeace_288 : decode cX12_readPeace 288 = .ok (.ireturn, 1) := dzr zhdX12_readPeace_254 16 rfl
theorem ggX12_fault_X12_readPeace : GoodIn wsX12_fault wsX12_readPeace := (bg_up (bg_law (bi_wsL_law0_r15 _ (List.mem_of_getElem? (i := 3) rfl))))
theorem gX12_fault_X12_readPeace : GoodIn wsX12_fault (wsV RX12 246 RX12 yX12_readPeace wsX12_readPeace) := goodIn_app (bg_up (bg_cons (bi_wsL_law0_r15 _ (List.mem_of_getElem? (i := 0) rfl)) (bg_cons (bi_wsL_law0_r15 _ (List.mem_of_getElem? (i := 1) rfl)) (bg_cons (bi_wsL_law0_r15 _ (List.mem_of_getElem? (i := 2) rfl)) (bg_cons (bi_wsL_law0_r1 _ (List.mem_of_getElem? (i := 5) rfl)) bg_nil))))) (bg_up (bg_law (bi_wsL_law0_r15 _ (List.mem_of_getElem? (i := 3) rfl))))
theorem ggX12_fault_X12_readLaw : GoodIn wsX12_fault wsX12_readLaw := (bg_up (bg_law (bi_wsL_law0_r17 _ (List.mem_of_getElem? (i := 5) rfl))))
theorem gX12_fault_X12_readLaw : GoodIn wsX12_fault (wsV RX12 249 RX12 yX12_readLaw wsX12_readLaw) := goodIn_app (bg_up (bg_cons (bi_wsL_law0_r17 _ (List.mem_of_getElem? (i := 2) rfl)) (bg_cons (bi_wsL_law0_r17 _ (List.mem_of_getElem? (i := 3) rfl)) (bg_cons (bi_wsL_law0_r17 _ (List.mem_of_getElem? (i := 4) rfl)) (bg_cons (bi_wsL_law0_r1 _ (List.mem_of_getElem? (i := 5) rfl)) bg_nil))))) (bg_up (bg_law (bi_wsL_law0_r17 _ (List.mem_of_getElem? (i := 5) rfl))))
def ztdX12_fault_0 : List (Nat × Instr × Nat) := [(0, .iload_n 1, 1), (1, .ifCond .ne 10, 3), (4, .aload_n 0, 1), (5, .invokevirtual 246, 3), (8, .goto 18, 3), (11, .iload_n 1, 1), (12, .iconst 1, 1), (13, .if_icmp .ne 11, 3), (16, .aload_n 0, 1), (17, .iconst 4, 1), (18, .invokevirtual 249, 3), (21, .goto 5, 3), (24, .bipush (-2), 2), (26, .ireturn, 1)]
theorem zhdX12_fault_0 : dzC ztdX12_fault_0 0 (cX12_fault.data.toList.drop 0) = true := by decide +kernel
theorem dX12_fault_0 : decode cX12_fault 0 = .ok (.iload_n 1, 1) := dzr zhdX12_fault_0 0 rfl
theorem dX12_fault_1 : decode cX12_fault 1 = .ok (.ifCond .ne 10, 3) := dzr zhdX12_fault_0 1 rfl
theorem dX12_fault_4 : decode cX12_fault 4 = .ok (.aload_n 0, 1) := dzr zhdX12_fault_0 2 rfl
theorem dX12_fault_5 : decode cX12_fault 5 = .ok (.invokevirtual 246, 3) := dzr zhdX12_fault_0 3 rfl
theorem dX12_fault_8 : decode cX12_fault 8 = .ok (.goto 18, 3) := dzr zhdX12_fault_0 4 rfl
theorem dX12_fault_11 : decode cX12_fault 11 = .ok (.iload_n 1, 1) := dzr zhdX12_fault_0 5 rfl
theorem dX12_fault_12 : decode cX12_fault 12 = .ok (.iconst 1, 1) := dzr zhdX12_fault_0 6 rfl
theorem dX12_fault_13 : decode cX12_fault 13 = .ok (.if_icmp .ne 11, 3) := dzr zhdX12_fault_0 7 rfl
theorem dX12_fault_16 : decode cX12_fault 16 = .ok (.aload_n 0, 1) := dzr zhdX12_fault_0 8 rfl
theorem dX12_fault_17 : decode cX12_fault 17 = .ok (.iconst 4, 1) := dzr zhdX12_fault_0 9 rfl
theorem dX12_fault_18 : decode cX12_fault 18 = .ok (.invokevirtual 249, 3) := dzr zhdX12_fault_0 10 rfl
theorem dX12_fault_21 : decode cX12_fault 21 = .ok (.goto 5, 3) := dzr zhdX12_fault_0 11 rfl
theorem dX12_fault_24 : decode cX12_fault 24 = .ok (.bipush (-2), 2) := dzr zhdX12_fault_0 12 rfl
theorem dX12_fault_26 : decode cX12_fault 26 = .ok (.ireturn, 1) := dzr zhdX12_fault_0 13 rfl
theorem ggX12_takePeace_X12_of : GoodIn wsX12_takePeace wsX12_of := (bg_up (bg_law (bi_wsL_law0_r22 _ (List.mem_of_getElem? (i := 21) rfl))))
theorem gX12_takePeace_X12_of : GoodIn wsX12_takePeace (wsV RX12 258 RX12 yX12_of wsX12_of) := goodIn_app (bg_up (bg_cons (bi_wsL_law0_r22 _ (List.mem_of_getElem? (i := 18) rfl)) (bg_cons (bi_wsL_law0_r22 _ (List.mem_of_getElem? (i := 19) rfl)) (bg_cons (bi_wsL_law0_r22 _ (List.mem_of_getElem? (i := 20) rfl)) (bg_cons (bi_wsL_law0_r1 _ (List.mem_of_getElem? (i := 5) rfl)) bg_nil))))) (bg_up (bg_law (bi_wsL_law0_r22 _ (List.mem_of_getElem? (i := 21) rfl))))
def ztdX12_takePeace_0 : List (Nat × Instr × Nat) := [(0, .aload_n 0, 1), (1, .aload_n 0, 1), (2, .getfield 232, 3), (5, .putfield 252, 3), (8, .aload_n 0, 1), (9, .aload_n 0, 1), (10, .getfield 235, 3), (13, .putfield 255, 3), (16, .iconst 0, 1), (17, .istore_n 1, 1), (18, .iload_n 1, 1), (19, .iconst 2, 1), (20, .if_icmp .ge 21, 3), (23, .aload_n 0, 1), (24, .getfield 49, 3), (27, .iload_n 1, 1), (28, .aload_n 0, 1), (29, .getfield 40, 3), (32, .iload_n 1, 1), (33, .iaload, 1), (34, .iastore, 1), (35, .iinc 1 1, 3), (38, .goto (-20), 3), (41, .iconst 0, 1)]
theorem zhdX12_takePeace_0 : dzC ztdX12_takePeace_0 0 (cX12_takePeace.data.toList.drop 0) = true := by decide +kernel
theorem dX12_takePeace_0 : decode cX12_takePeace 0 = .ok (.aload_n 0, 1) := dzr zhdX12_takePeace_0 0 rfl
theorem dX12_takePeace_1 : decode cX12_takePeace 1 = .ok (.aload_n 0, 1) := dzr zhdX12_takePeace_0 1 rfl
theorem dX12_takePeace_2 : decode cX12_takePeace 2 = .ok (.getfield 232, 3) := dzr zhdX12_takePeace_0 2 rfl
theorem dX12_takePeace_5 : decode cX12_takePeace 5 = .ok (.putfield 252, 3) := dzr zhdX12_takePeace_0 3 rfl
theorem dX12_takePeace_8 : decode cX12_takePeace 8 = .ok (.aload_n 0, 1) := dzr zhdX12_takePeace_0 4 rfl
theorem dX12_takePeace_9 : decode cX12_takePeace 9 = .ok (.aload_n 0, 1) := dzr zhdX12_takePeace_0 5 rfl
theorem dX12_takePeace_10 : decode cX12_takePeace 10 = .ok (.getfield 235, 3) := dzr zhdX12_takePeace_0 6 rfl
theorem dX12_takePeace_13 : decode cX12_takePeace 13 = .ok (.putfield 255, 3) := dzr zhdX12_takePeace_0 7 rfl
theorem dX12_takePeace_16 : decode cX12_takePeace 16 = .ok (.iconst 0, 1) := dzr zhdX12_takePeace_0 8 rfl
theorem dX12_takePeace_17 : decode cX12_takePeace 17 = .ok (.istore_n 1, 1) := dzr zhdX12_takePeace_0 9 rfl
theorem dX12_takePeace_18 : decode cX12_takePeace 18 = .ok (.iload_n 1, 1) := dzr zhdX12_takePeace_0 10 rfl
theorem dX12_takePeace_19 : decode cX12_takePeace 19 = .ok (.iconst 2, 1) := dzr zhdX12_takePeace_0 11 rfl
theorem dX12_takePeace_20 : decode cX12_takePeace 20 = .ok (.if_icmp .ge 21, 3) := dzr zhdX12_takePeace_0 12 rfl
theorem dX12_takePeace_23 : decode cX12_takePeace 23 = .ok (.aload_n 0, 1) := dzr zhdX12_takePeace_0 13 rfl
theorem dX12_takePeace_24 : decode cX12_takePeace 24 = .ok (.getfield 49, 3) := dzr zhdX12_takePeace_0 14 rfl
theorem dX12_takePeace_27 : decode cX12_takePeace 27 = .ok (.iload_n 1, 1) := dzr zhdX12_takePeace_0 15 rfl
theorem dX12_takePeace_28 : decode cX12_takePeace 28 = .ok (.aload_n 0, 1) := dzr zhdX12_takePeace_0 16 rfl
theorem dX12_takePeace_29 : decode cX12_takePeace 29 = .ok (.getfield 40, 3) := dzr zhdX12_takePeace_0 17 rfl
theorem dX12_takePeace_32 : decode cX12_takePeace 32 = .ok (.iload_n 1, 1) := dzr zhdX12_takePeace_0 18 rfl
theorem dX12_takePeace_33 : decode cX12_takePeace 33 = .ok (.iaload, 1) := dzr zhdX12_takePeace_0 19 rfl
theorem dX12_takePeace_34 : decode cX12_takePeace 34 = .ok (.iastore, 1) := dzr zhdX12_takePeace_0 20 rfl
theorem dX12_takePeace_35 : decode cX12_takePeace 35 = .ok (.iinc 1 1, 3) := dzr zhdX12_takePeace_0 21 rfl
theorem dX12_takePeace_38 : decode cX12_takePeace 38 = .ok (.goto (-20), 3) := dzr zhdX12_takePeace_0 22 rfl
theorem dX12_takePeace_41 : decode cX12_takePeace 41 = .ok (.iconst 0, 1) := dzr zhdX12_takePeace_0 23 rfl
def ztdX12_takePeace_42 : List (Nat × Instr × Nat) := [(42, .istore_n 1, 1), (43, .iload_n 1, 1), (44, .bipush 24, 2), (46, .if_icmp .ge 21, 3), (49, .aload_n 0, 1), (50, .getfield 52, 3), (53, .iload_n 1, 1), (54, .aload_n 0, 1), (55, .getfield 43, 3), (58, .iload_n 1, 1), (59, .iaload, 1), (60, .iastore, 1), (61, .iinc 1 1, 3), (64, .goto (-21), 3), (67, .iconst 0, 1), (68, .istore_n 1, 1), (69, .iload_n 1, 1), (70, .bipush 10, 2), (72, .if_icmp .ge 21, 3), (75, .aload_n 0, 1), (76, .getfield 55, 3), (79, .iload_n 1, 1), (80, .aload_n 0, 1), (81, .getfield 46, 3)]
theorem zhdX12_takePeace_42 : dzC ztdX12_takePeace_42 42 (cX12_takePeace.data.toList.drop 42) = true := by decide +kernel
theorem dX12_takePeace_42 : decode cX12_takePeace 42 = .ok (.istore_n 1, 1) := dzr zhdX12_takePeace_42 0 rfl
theorem dX12_takePeace_43 : decode cX12_takePeace 43 = .ok (.iload_n 1, 1) := dzr zhdX12_takePeace_42 1 rfl
theorem dX12_takePeace_44 : decode cX12_takePeace 44 = .ok (.bipush 24, 2) := dzr zhdX12_takePeace_42 2 rfl
theorem dX12_takePeace_46 : decode cX12_takePeace 46 = .ok (.if_icmp .ge 21, 3) := dzr zhdX12_takePeace_42 3 rfl
theorem dX12_takePeace_49 : decode cX12_takePeace 49 = .ok (.aload_n 0, 1) := dzr zhdX12_takePeace_42 4 rfl
theorem dX12_takePeace_50 : decode cX12_takePeace 50 = .ok (.getfield 52, 3) := dzr zhdX12_takePeace_42 5 rfl
theorem dX12_takePeace_53 : decode cX12_takePeace 53 = .ok (.iload_n 1, 1) := dzr zhdX12_takePeace_42 6 rfl
theorem dX12_takePeace_54 : decode cX12_takePeace 54 = .ok (.aload_n 0, 1) := dzr zhdX12_takePeace_42 7 rfl
theorem dX12_takePeace_55 : decode cX12_takePeace 55 = .ok (.getfield 43, 3) := dzr zhdX12_takePeace_42 8 rfl
theorem dX12_takePeace_58 : decode cX12_takePeace 58 = .ok (.iload_n 1, 1) := dzr zhdX12_takePeace_42 9 rfl
theorem dX12_takePeace_59 : decode cX12_takePeace 59 = .ok (.iaload, 1) := dzr zhdX12_takePeace_42 10 rfl
theorem dX12_takePeace_60 : decode cX12_takePeace 60 = .ok (.iastore, 1) := dzr zhdX12_takePeace_42 11 rfl
theorem dX12_takePeace_61 : decode cX12_takePeace 61 = .ok (.iinc 1 1, 3) := dzr zhdX12_takePeace_42 12 rfl
theorem dX12_takePeace_64 : decode cX12_takePeace 64 = .ok (.goto (-21), 3) := dzr zhdX12_takePeace_42 13 rfl
theorem dX12_takePeace_67 : decode cX12_takePeace 67 = .ok (.iconst 0, 1) := dzr zhdX12_takePeace_42 14 rfl
theorem dX12_takePeace_68 : decode cX12_takePeace 68 = .ok (.istore_n 1, 1) := dzr zhdX12_takePeace_42 15 rfl
theorem dX12_takePeace_69 : decode cX12_takePeace 69 = .ok (.iload_n 1, 1) := dzr zhdX12_takePeace_42 16 rfl
theorem dX12_takePeace_70 : decode cX12_takePeace 70 = .ok (.bipush 10, 2) := dzr zhdX12_takePeace_42 17 rfl
theorem dX12_takePeace_72 : decode cX12_takePeace 72 = .ok (.if_icmp .ge 21, 3) := dzr zhdX12_takePeace_42 18 rfl
theorem dX12_takePeace_75 : decode cX12_takePeace 75 = .ok (.aload_n 0, 1) := dzr zhdX12_takePeace_42 19 rfl
theorem dX12_takePeace_76 : decode cX12_takePeace 76 = .ok (.getfield 55, 3) := dzr zhdX12_takePeace_42 20 rfl
theorem dX12_takePeace_79 : decode cX12_takePeace 79 = .ok (.iload_n 1, 1) := dzr zhdX12_takePeace_42 21 rfl
theorem dX12_takePeace_80 : decode cX12_takePeace 80 = .ok (.aload_n 0, 1) := dzr zhdX12_takePeace_42 22 rfl
theorem dX12_takePeace_81 : decode cX12_takePeace 81 = .ok (.getfield 46, 3) := dzr zhdX12_takePeace_42 23 rfl
def ztdX12_takePeace_84 : List (Nat × Instr × Nat) := [(84, .iload_n 1, 1), (85, .iaload, 1), (86, .iastore, 1), (87, .iinc 1 1, 3), (90, .goto (-21), 3), (93, .iconst 0, 1), (94, .istore_n 1, 1), (95, .iload_n 1, 1), (96, .sipush 250, 3), (99, .if_icmp .ge 16, 3), (102, .aload_n 0, 1), (103, .getfield 58, 3), (106, .iload_n 1, 1), (107, .iconst 0, 1), (108, .iastore, 1), (109, .iinc 1 1, 3), (112, .goto (-17), 3), (115, .iconst 0, 1), (116, .istore_n 1, 1), (117, .iload_n 1, 1), (118, .aload_n 0, 1), (119, .getfield 252, 3), (122, .if_icmp .ge 61, 3), (125, .aload_n 0, 1)]
theorem zhdX12_takePeace_84 : dzC ztdX12_takePeace_84 84 (cX12_takePeace.data.toList.drop 84) = true := by decide +kernel
theorem dX12_takePeace_84 : decode cX12_takePeace 84 = .ok (.iload_n 1, 1) := dzr zhdX12_takePeace_84 0 rfl
theorem dX12_takePeace_85 : decode cX12_takePeace 85 = .ok (.iaload, 1) := dzr zhdX12_takePeace_84 1 rfl
theorem dX12_takePeace_86 : decode cX12_takePeace 86 = .ok (.iastore, 1) := dzr zhdX12_takePeace_84 2 rfl
theorem dX12_takePeace_87 : decode cX12_takePeace 87 = .ok (.iinc 1 1, 3) := dzr zhdX12_takePeace_84 3 rfl
theorem dX12_takePeace_90 : decode cX12_takePeace 90 = .ok (.goto (-21), 3) := dzr zhdX12_takePeace_84 4 rfl
theorem dX12_takePeace_93 : decode cX12_takePeace 93 = .ok (.iconst 0, 1) := dzr zhdX12_takePeace_84 5 rfl
theorem dX12_takePeace_94 : decode cX12_takePeace 94 = .ok (.istore_n 1, 1) := dzr zhdX12_takePeace_84 6 rfl
theorem dX12_takePeace_95 : decode cX12_takePeace 95 = .ok (.iload_n 1, 1) := dzr zhdX12_takePeace_84 7 rfl
theorem dX12_takePeace_96 : decode cX12_takePeace 96 = .ok (.sipush 250, 3) := dzr zhdX12_takePeace_84 8 rfl
theorem dX12_takePeace_99 : decode cX12_takePeace 99 = .ok (.if_icmp .ge 16, 3) := dzr zhdX12_takePeace_84 9 rfl
theorem dX12_takePeace_102 : decode cX12_takePeace 102 = .ok (.aload_n 0, 1) := dzr zhdX12_takePeace_84 10 rfl
theorem dX12_takePeace_103 : decode cX12_takePeace 103 = .ok (.getfield 58, 3) := dzr zhdX12_takePeace_84 11 rfl
theorem dX12_takePeace_106 : decode cX12_takePeace 106 = .ok (.iload_n 1, 1) := dzr zhdX12_takePeace_84 12 rfl
theorem dX12_takePeace_107 : decode cX12_takePeace 107 = .ok (.iconst 0, 1) := dzr zhdX12_takePeace_84 13 rfl
theorem dX12_takePeace_108 : decode cX12_takePeace 108 = .ok (.iastore, 1) := dzr zhdX12_takePeace_84 14 rfl
theorem dX12_takePeace_109 : decode cX12_takePeace 109 = .ok (.iinc 1 1, 3) := dzr zhdX12_takePeace_84 15 rfl
theorem dX12_takePeace_112 : decode cX12_takePeace 112 = .ok (.goto (-17), 3) := dzr zhdX12_takePeace_84 16 rfl
theorem dX12_takePeace_115 : decode cX12_takePeace 115 = .ok (.iconst 0, 1) := dzr zhdX12_takePeace_84 17 rfl
theorem dX12_takePeace_116 : decode cX12_takePeace 116 = .ok (.istore_n 1, 1) := dzr zhdX12_takePeace_84 18 rfl
theorem dX12_takePeace_117 : decode cX12_takePeace 117 = .ok (.iload_n 1, 1) := dzr zhdX12_takePeace_84 19 rfl
theorem dX12_takePeace_118 : decode cX12_takePeace 118 = .ok (.aload_n 0, 1) := dzr zhdX12_takePeace_84 20 rfl
theorem dX12_takePeace_119 : decode cX12_takePeace 119 = .ok (.getfield 252, 3) := dzr zhdX12_takePeace_84 21 rfl
theorem dX12_takePeace_122 : decode cX12_takePeace 122 = .ok (.if_icmp .ge 61, 3) := dzr zhdX12_takePeace_84 22 rfl
theorem dX12_takePeace_125 : decode cX12_takePeace 125 = .ok (.aload_n 0, 1) := dzr zhdX12_takePeace_84 23 rfl
def ztdX12_takePeace_126 : List (Nat × Instr × Nat) := [(126, .getfield 58, 3), (129, .bipush 36, 2), (131, .iload_n 1, 1), (132, .iadd, 1), (133, .aload_n 0, 1), (134, .iload_n 1, 1), (135, .iconst 1, 1), (136, .invokevirtual 258, 3), (139, .iastore, 1), (140, .aload_n 0, 1), (141, .getfield 58, 3), (144, .bipush 42, 2), (146, .iload_n 1, 1), (147, .iadd, 1), (148, .aload_n 0, 1), (149, .iload_n 1, 1), (150, .iconst 2, 1), (151, .invokevirtual 258, 3), (154, .iastore, 1), (155, .aload_n 0, 1), (156, .getfield 58, 3), (159, .bipush 48, 2), (161, .iload_n 1, 1), (162, .iadd, 1)]
theorem zhdX12_takePeace_126 : dzC ztdX12_takePeace_126 126 (cX12_takePeace.data.toList.drop 126) = true := by decide +kernel
theorem dX12_takePeace_126 : decode cX12_takePeace 126 = .ok (.getfield 58, 3) := dzr zhdX12_takePeace_126 0 rfl
theorem dX12_takePeace_129 : decode cX12_takePeace 129 = .ok (.bipush 36, 2) := dzr zhdX12_takePeace_126 1 rfl
theorem dX12_takePeace_131 : decode cX12_takePeace 131 = .ok (.iload_n 1, 1) := dzr zhdX12_takePeace_126 2 rfl
theorem dX12_takePeace_132 : decode cX12_takePeace 132 = .ok (.iadd, 1) := dzr zhdX12_takePeace_126 3 rfl
theorem dX12_takePeace_133 : decode cX12_takePeace 133 = .ok (.aload_n 0, 1) := dzr zhdX12_takePeace_126 4 rfl
theorem dX12_takePeace_134 : decode cX12_takePeace 134 = .ok (.iload_n 1, 1) := dzr zhdX12_takePeace_126 5 rfl
theorem dX12_takePeace_135 : decode cX12_takePeace 135 = .ok (.iconst 1, 1) := dzr zhdX12_takePeace_126 6 rfl
theorem dX12_takePeace_136 : decode cX12_takePeace 136 = .ok (.invokevirtual 258, 3) := dzr zhdX12_takePeace_126 7 rfl
theorem dX12_takePeace_139 : decode cX12_takePeace 139 = .ok (.iastore, 1) := dzr zhdX12_takePeace_126 8 rfl
theorem dX12_takePeace_140 : decode cX12_takePeace 140 = .ok (.aload_n 0, 1) := dzr zhdX12_takePeace_126 9 rfl
theorem dX12_takePeace_141 : decode cX12_takePeace 141 = .ok (.getfield 58, 3) := dzr zhdX12_takePeace_126 10 rfl
theorem dX12_takePeace_144 : decode cX12_takePeace 144 = .ok (.bipush 42, 2) := dzr zhdX12_takePeace_126 11 rfl
theorem dX12_takePeace_146 : decode cX12_takePeace 146 = .ok (.iload_n 1, 1) := dzr zhdX12_takePeace_126 12 rfl
theorem dX12_takePeace_147 : decode cX12_takePeace 147 = .ok (.iadd, 1) := dzr zhdX12_takePeace_126 13 rfl
theorem dX12_takePeace_148 : decode cX12_takePeace 148 = .ok (.aload_n 0, 1) := dzr zhdX12_takePeace_126 14 rfl
theorem dX12_takePeace_149 : decode cX12_takePeace 149 = .ok (.iload_n 1, 1) := dzr zhdX12_takePeace_126 15 rfl
theorem dX12_takePeace_150 : decode cX12_takePeace 150 = .ok (.iconst 2, 1) := dzr zhdX12_takePeace_126 16 rfl
theorem dX12_takePeace_151 : decode cX12_takePeace 151 = .ok (.invokevirtual 258, 3) := dzr zhdX12_takePeace_126 17 rfl
theorem dX12_takePeace_154 : decode cX12_takePeace 154 = .ok (.iastore, 1) := dzr zhdX12_takePeace_126 18 rfl
theorem dX12_takePeace_155 : decode cX12_takePeace 155 = .ok (.aload_n 0, 1) := dzr zhdX12_takePeace_126 19 rfl
theorem dX12_takePeace_156 : decode cX12_takePeace 156 = .ok (.getfield 58, 3) := dzr zhdX12_takePeace_126 20 rfl
theorem dX12_takePeace_159 : decode cX12_takePeace 159 = .ok (.bipush 48, 2) := dzr zhdX12_takePeace_126 21 rfl
theorem dX12_takePeace_161 : decode cX12_takePeace 161 = .ok (.iload_n 1, 1) := dzr zhdX12_takePeace_126 22 rfl
theorem dX12_takePeace_162 : decode cX12_takePeace 162 = .ok (.iadd, 1) := dzr zhdX12_takePeace_126 23 rfl
def ztdX12_takePeace_163 : List (Nat × Instr × Nat) := [(163, .iconst 1, 1), (164, .iload_n 1, 1), (165, .ishl, 1), (166, .iastore, 1), (167, .aload_n 0, 1), (168, .getfield 58, 3), (171, .bipush 54, 2), (173, .iload_n 1, 1), (174, .iadd, 1), (175, .iconst (-1), 1), (176, .iastore, 1), (177, .iinc 1 1, 3), (180, .goto (-63), 3), (183, .iconst 0, 1), (184, .istore_n 1, 1), (185, .iload_n 1, 1), (186, .aload_n 0, 1), (187, .getfield 255, 3), (190, .if_icmp .ge 19, 3), (193, .aload_n 0, 1), (194, .getfield 58, 3), (197, .bipush 60, 2), (199, .iload_n 1, 1), (200, .iadd, 1)]
theorem zhdX12_takePeace_163 : dzC ztdX12_takePeace_163 163 (cX12_takePeace.data.toList.drop 163) = true := by decide +kernel
theorem dX12_takePeace_163 : decode cX12_takePeace 163 = .ok (.iconst 1, 1) := dzr zhdX12_takePeace_163 0 rfl
theorem dX12_takePeace_164 : decode cX12_takePeace 164 = .ok (.iload_n 1, 1) := dzr zhdX12_takePeace_163 1 rfl
theorem dX12_takePeace_165 : decode cX12_takePeace 165 = .ok (.ishl, 1) := dzr zhdX12_takePeace_163 2 rfl
theorem dX12_takePeace_166 : decode cX12_takePeace 166 = .ok (.iastore, 1) := dzr zhdX12_takePeace_163 3 rfl
theorem dX12_takePeace_167 : decode cX12_takePeace 167 = .ok (.aload_n 0, 1) := dzr zhdX12_takePeace_163 4 rfl
theorem dX12_takePeace_168 : decode cX12_takePeace 168 = .ok (.getfield 58, 3) := dzr zhdX12_takePeace_163 5 rfl
theorem dX12_takePeace_171 : decode cX12_takePeace 171 = .ok (.bipush 54, 2) := dzr zhdX12_takePeace_163 6 rfl
theorem dX12_takePeace_173 : decode cX12_takePeace 173 = .ok (.iload_n 1, 1) := dzr zhdX12_takePeace_163 7 rfl
theorem dX12_takePeace_174 : decode cX12_takePeace 174 = .ok (.iadd, 1) := dzr zhdX12_takePeace_163 8 rfl
theorem dX12_takePeace_175 : decode cX12_takePeace 175 = .ok (.iconst (-1), 1) := dzr zhdX12_takePeace_163 9 rfl
theorem dX12_takePeace_176 : decode cX12_takePeace 176 = .ok (.iastore, 1) := dzr zhdX12_takePeace_163 10 rfl
theorem dX12_takePeace_177 : decode cX12_takePeace 177 = .ok (.iinc 1 1, 3) := dzr zhdX12_takePeace_163 11 rfl
theorem dX12_takePeace_180 : decode cX12_takePeace 180 = .ok (.goto (-63), 3) := dzr zhdX12_takePeace_163 12 rfl
theorem dX12_takePeace_183 : decode cX12_takePeace 183 = .ok (.iconst 0, 1) := dzr zhdX12_takePeace_163 13 rfl
theorem dX12_takePeace_184 : decode cX12_takePeace 184 = .ok (.istore_n 1, 1) := dzr zhdX12_takePeace_163 14 rfl
theorem dX12_takePeace_185 : decode cX12_takePeace 185 = .ok (.iload_n 1, 1) := dzr zhdX12_takePeace_163 15 rfl
theorem dX12_takePeace_186 : decode cX12_takePeace 186 = .ok (.aload_n 0, 1) := dzr zhdX12_takePeace_163 16 rfl
theorem dX12_takePeace_187 : decode cX12_takePeace 187 = .ok (.getfield 255, 3) := dzr zhdX12_takePeace_163 17 rfl
theorem dX12_takePeace_190 : decode cX12_takePeace 190 = .ok (.if_icmp .ge 19, 3) := dzr zhdX12_takePeace_163 18 rfl
theorem dX12_takePeace_193 : decode cX12_takePeace 193 = .ok (.aload_n 0, 1) := dzr zhdX12_takePeace_163 19 rfl
theorem dX12_takePeace_194 : decode cX12_takePeace 194 = .ok (.getfield 58, 3) := dzr zhdX12_takePeace_163 20 rfl
theorem dX12_takePeace_197 : decode cX12_takePeace 197 = .ok (.bipush 60, 2) := dzr zhdX12_takePeace_163 21 rfl
theorem dX12_takePeace_199 : decode cX12_takePeace 199 = .ok (.iload_n 1, 1) := dzr zhdX12_takePeace_163 22 rfl
theorem dX12_takePeace_200 : decode cX12_takePeace 200 = .ok (.iadd, 1) := dzr zhdX12_takePeace_163 23 rfl
def ztdX12_takePeace_201 : List (Nat × Instr × Nat) := [(201, .iconst (-1), 1), (202, .iastore, 1), (203, .iinc 1 1, 3), (206, .goto (-21), 3), (209, .aload_n 0, 1), (210, .getfield 58, 3), (213, .bipush 66, 2), (215, .aload_n 0, 1), (216, .getfield 49, 3), (219, .iconst 0, 1), (220, .iaload, 1), (221, .iastore, 1), (222, .aload_n 0, 1), (223, .getfield 58, 3), (226, .bipush 67, 2), (228, .aload_n 0, 1), (229, .getfield 49, 3), (232, .iconst 1, 1), (233, .iaload, 1), (234, .iastore, 1), (235, .aload_n 0, 1), (236, .iconst 0, 1), (237, .putfield 261, 3), (240, .aload_n 0, 1)]
theorem zhdX12_takePeace_201 : dzC ztdX12_takePeace_201 201 (cX12_takePeace.data.toList.drop 201) = true := by decide +kernel
theorem dX12_takePeace_201 : decode cX12_takePeace 201 = .ok (.iconst (-1), 1) := dzr zhdX12_takePeace_201 0 rfl
theorem dX12_takePeace_202 : decode cX12_takePeace 202 = .ok (.iastore, 1) := dzr zhdX12_takePeace_201 1 rfl
theorem dX12_takePeace_203 : decode cX12_takePeace 203 = .ok (.iinc 1 1, 3) := dzr zhdX12_takePeace_201 2 rfl
theorem dX12_takePeace_206 : decode cX12_takePeace 206 = .ok (.goto (-21), 3) := dzr zhdX12_takePeace_201 3 rfl
theorem dX12_takePeace_209 : decode cX12_takePeace 209 = .ok (.aload_n 0, 1) := dzr zhdX12_takePeace_201 4 rfl
theorem dX12_takePeace_210 : decode cX12_takePeace 210 = .ok (.getfield 58, 3) := dzr zhdX12_takePeace_201 5 rfl
theorem dX12_takePeace_213 : decode cX12_takePeace 213 = .ok (.bipush 66, 2) := dzr zhdX12_takePeace_201 6 rfl
theorem dX12_takePeace_215 : decode cX12_takePeace 215 = .ok (.aload_n 0, 1) := dzr zhdX12_takePeace_201 7 rfl
theorem dX12_takePeace_216 : decode cX12_takePeace 216 = .ok (.getfield 49, 3) := dzr zhdX12_takePeace_201 8 rfl
theorem dX12_takePeace_219 : decode cX12_takePeace 219 = .ok (.iconst 0, 1) := dzr zhdX12_takePeace_201 9 rfl
theorem dX12_takePeace_220 : decode cX12_takePeace 220 = .ok (.iaload, 1) := dzr zhdX12_takePeace_201 10 rfl
theorem dX12_takePeace_221 : decode cX12_takePeace 221 = .ok (.iastore, 1) := dzr zhdX12_takePeace_201 11 rfl
theorem dX12_takePeace_222 : decode cX12_takePeace 222 = .ok (.aload_n 0, 1) := dzr zhdX12_takePeace_201 12 rfl
theorem dX12_takePeace_223 : decode cX12_takePeace 223 = .ok (.getfield 58, 3) := dzr zhdX12_takePeace_201 13 rfl
theorem dX12_takePeace_226 : decode cX12_takePeace 226 = .ok (.bipush 67, 2) := dzr zhdX12_takePeace_201 14 rfl
theorem dX12_takePeace_228 : decode cX12_takePeace 228 = .ok (.aload_n 0, 1) := dzr zhdX12_takePeace_201 15 rfl
theorem dX12_takePeace_229 : decode cX12_takePeace 229 = .ok (.getfield 49, 3) := dzr zhdX12_takePeace_201 16 rfl
theorem dX12_takePeace_232 : decode cX12_takePeace 232 = .ok (.iconst 1, 1) := dzr zhdX12_takePeace_201 17 rfl
theorem dX12_takePeace_233 : decode cX12_takePeace 233 = .ok (.iaload, 1) := dzr zhdX12_takePeace_201 18 rfl
theorem dX12_takePeace_234 : decode cX12_takePeace 234 = .ok (.iastore, 1) := dzr zhdX12_takePeace_201 19 rfl
theorem dX12_takePeace_235 : decode cX12_takePeace 235 = .ok (.aload_n 0, 1) := dzr zhdX12_takePeace_201 20 rfl
theorem dX12_takePeace_236 : decode cX12_takePeace 236 = .ok (.iconst 0, 1) := dzr zhdX12_takePeace_201 21 rfl
theorem dX12_takePeace_237 : decode cX12_takePeace 237 = .ok (.putfield 261, 3) := dzr zhdX12_takePeace_201 22 rfl
theorem dX12_takePeace_240 : decode cX12_takePeace 240 = .ok (.aload_n 0, 1) := dzr zhdX12_takePeace_201 23 rfl
def ztdX12_takePeace_241 : List (Nat × Instr × Nat) := [(241, .iconst 0, 1), (242, .putfield 264, 3), (245, .aload_n 0, 1), (246, .iconst 0, 1), (247, .putfield 267, 3), (250, .aload_n 0, 1), (251, .getfield 252, 3), (254, .ireturn, 1)]
theorem zhdX12_takePeace_241 : dzC ztdX12_takePeace_241 241 (cX12_takePeace.data.toList.drop 241) = true := by decide +kernel
theorem dX12_takePeace_241 : decode cX12_takePeace 241 = .ok (.iconst 0, 1) := dzr zhdX12_takePeace_241 0 rfl
theorem dX12_takePeace_242 : decode cX12_takePeace 242 = .ok (.putfield 264, 3) := dzr zhdX12_takePeace_241 1 rfl
theorem dX12_takePeace_245 : decode cX12_takePeace 245 = .ok (.aload_n 0, 1) := dzr zhdX12_takePeace_241 2 rfl
theorem dX12_takePeace_246 : decode cX12_takePeace 246 = .ok (.iconst 0, 1) := dzr zhdX12_takePeace_241 3 rfl
theorem dX12_takePeace_247 : decode cX12_takePeace 247 = .ok (.putfield 267, 3) := dzr zhdX12_takePeace_241 4 rfl
theorem dX12_takePeace_250 : decode cX12_takePeace 250 = .ok (.aload_n 0, 1) := dzr zhdX12_takePeace_241 5 rfl
theorem dX12_takePeace_251 : decode cX12_takePeace 251 = .ok (.getfield 252, 3) := dzr zhdX12_takePeace_241 6 rfl
theorem dX12_takePeace_254 : decode cX12_takePeace 254 = .ok (.ireturn, 1) := dzr zhdX12_takePeace_241 7 rfl
theorem ggX12_text_X12_readPeace : GoodIn wsX12_text wsX12_readPeace := (bg_up (bg_law (bi_wsL_law0_r15 _ (List.mem_of_getElem? (i := 3) rfl))))
theorem gX12_text_X12_readPeace : GoodIn wsX12_text (wsV RX12 246 RX12 yX12_readPeace wsX12_readPeace) := goodIn_app (bg_up (bg_cons (bi_wsL_law0_r15 _ (List.mem_of_getElem? (i := 0) rfl)) (bg_cons (bi_wsL_law0_r15 _ (List.mem_of_getElem? (i := 1) rfl)) (bg_cons (bi_wsL_law0_r15 _ (List.mem_of_getElem? (i := 2) rfl)) (bg_cons (bi_wsL_law0_r1 _ (List.mem_of_getElem? (i := 5) rfl)) bg_nil))))) (bg_up (bg_law (bi_wsL_law0_r15 _ (List.mem_of_getElem? (i := 3) rfl))))
theorem ggX12_text_X12_takePeace : GoodIn wsX12_text wsX12_takePeace := (bg_up (bg_law (bi_wsL_law0_r22 _ (List.mem_of_getElem? (i := 12) rfl))))
theorem gX12_text_X12_takePeace : GoodIn wsX12_text (wsV RX12 271 RX12 yX12_takePeace wsX12_takePeace) := goodIn_app (bg_up (bg_cons (bi_wsL_law0_r22 _ (List.mem_of_getElem? (i := 9) rfl)) (bg_cons (bi_wsL_law0_r22 _ (List.mem_of_getElem? (i := 10) rfl)) (bg_cons (bi_wsL_law0_r22 _ (List.mem_of_getElem? (i := 11) rfl)) (bg_cons (bi_wsL_law0_r1 _ (List.mem_of_getElem? (i := 5) rfl)) bg_nil))))) (bg_up (bg_law (bi_wsL_law0_r22 _ (List.mem_of_getElem? (i := 12) rfl))))
theorem ggX12_text_X12_readLaw : GoodIn wsX12_text wsX12_readLaw := (bg_up (bg_law (bi_wsL_law0_r17 _ (List.mem_of_getElem? (i := 5) rfl))))
theorem gX12_text_X12_readLaw : GoodIn wsX12_text (wsV RX12 249 RX12 yX12_readLaw wsX12_readLaw) := goodIn_app (bg_up (bg_cons (bi_wsL_law0_r17 _ (List.mem_of_getElem? (i := 2) rfl)) (bg_cons (bi_wsL_law0_r17 _ (List.mem_of_getElem? (i := 3) rfl)) (bg_cons (bi_wsL_law0_r17 _ (List.mem_of_getElem? (i := 4) rfl)) (bg_cons (bi_wsL_law0_r1 _ (List.mem_of_getElem? (i := 5) rfl)) bg_nil))))) (bg_up (bg_law (bi_wsL_law0_r17 _ (List.mem_of_getElem? (i := 5) rfl))))
def ztdX12_text_0 : List (Nat × Instr × Nat) := [(0, .iload_n 1, 1), (1, .ifCond .ne 21, 3), (4, .aload_n 0, 1)]
theorem zhdX12_text_0 : dzC ztdX12_text_0 0 (cX12_text.data.toList.drop 0) = true := by decide +kernel
theorem dX12_text_0 : decode cX12_text 0 = .ok (.iload_n 1, 1) := dzr zhdX12_text_0 0 rfl
theorem dX12_text_1 : decode cX12_text 1 = .ok (.ifCond .ne 21, 3) := dzr zhdX12_text_0 1 rfl
theorem dX12_text_4 : decode cX12_text 4 = .ok (.aload_n 0, 1) := dzr zhdX12_text_0 2 rfl
